section
-- ===== PART A: goes FIRST, ahead of the names: the tables' words, and 'selects' of the private methods out of them =====
/-- a private method of a class that the tables say can be made, by its rows of tables_1 -/
def lw_okq (q : MethodName × Nat) : Prop := (q.1.cls ≠ "java/lang/invoke/MethodHandle" ∧ q.1.cls ≠ "java/lang/invoke/VarHandle") ∧ Cond.instantiable q.1.cls q.2 ∈ tables_1 ∧ Cond.privateMethod q.1 ∈ tables_1 ∧ Cond.instanceMethod q.1 ∈ tables_1
theorem lw_p0 : lw_okq (⟨"DictationBelt", "withRecording", "(JI)J"⟩, 5) := ⟨⟨by decide +kernel, by decide +kernel⟩, List.mem_of_getElem? (i := 14) (by decide +kernel), List.mem_of_getElem? (i := 243) (by decide +kernel), List.mem_of_getElem? (i := 244) (by decide +kernel)⟩
theorem lw_p1 : lw_okq (⟨"java/lang/Throwable", "fillInStackTrace", "(I)Ljava/lang/Throwable;"⟩, 6) := ⟨⟨by decide +kernel, by decide +kernel⟩, List.mem_of_getElem? (i := 307) (by decide +kernel), List.mem_of_getElem? (i := 305) (by decide +kernel), List.mem_of_getElem? (i := 306) (by decide +kernel)⟩
theorem lw_p2 : lw_okq (⟨"DictationBelt", "save", "()V"⟩, 5) := ⟨⟨by decide +kernel, by decide +kernel⟩, List.mem_of_getElem? (i := 14) (by decide +kernel), List.mem_of_getElem? (i := 337) (by decide +kernel), List.mem_of_getElem? (i := 338) (by decide +kernel)⟩
theorem lw_p3 : lw_okq (⟨"DictationBelt", "slotAt", "(I)LDictationBelt$State;"⟩, 5) := ⟨⟨by decide +kernel, by decide +kernel⟩, List.mem_of_getElem? (i := 14) (by decide +kernel), List.mem_of_getElem? (i := 341) (by decide +kernel), List.mem_of_getElem? (i := 342) (by decide +kernel)⟩
theorem lw_p4 : lw_okq (⟨"DictationBelt", "requireRecording", "(I)V"⟩, 5) := ⟨⟨by decide +kernel, by decide +kernel⟩, List.mem_of_getElem? (i := 14) (by decide +kernel), List.mem_of_getElem? (i := 441) (by decide +kernel), List.mem_of_getElem? (i := 442) (by decide +kernel)⟩
theorem lw_p5 : lw_okq (⟨"DictationBelt", "requirePlace", "(II)V"⟩, 5) := ⟨⟨by decide +kernel, by decide +kernel⟩, List.mem_of_getElem? (i := 14) (by decide +kernel), List.mem_of_getElem? (i := 507) (by decide +kernel), List.mem_of_getElem? (i := 508) (by decide +kernel)⟩
theorem lw_p6 : lw_okq (⟨"DictationBelt", "requirePlayer", "()V"⟩, 5) := ⟨⟨by decide +kernel, by decide +kernel⟩, List.mem_of_getElem? (i := 14) (by decide +kernel), List.mem_of_getElem? (i := 562) (by decide +kernel), List.mem_of_getElem? (i := 563) (by decide +kernel)⟩
theorem lw_p7 : lw_okq (⟨"DictationBelt", "obeyOrders", "()I"⟩, 5) := ⟨⟨by decide +kernel, by decide +kernel⟩, List.mem_of_getElem? (i := 14) (by decide +kernel), List.mem_of_getElem? (i := 650) (by decide +kernel), List.mem_of_getElem? (i := 651) (by decide +kernel)⟩
theorem lw_p8 : lw_okq (⟨"DictationBelt", "mayObey", "(III)Z"⟩, 5) := ⟨⟨by decide +kernel, by decide +kernel⟩, List.mem_of_getElem? (i := 14) (by decide +kernel), List.mem_of_getElem? (i := 657) (by decide +kernel), List.mem_of_getElem? (i := 658) (by decide +kernel)⟩
theorem lw_p9 : lw_okq (⟨"DictationBelt", "obey", "(III)V"⟩, 5) := ⟨⟨by decide +kernel, by decide +kernel⟩, List.mem_of_getElem? (i := 14) (by decide +kernel), List.mem_of_getElem? (i := 661) (by decide +kernel), List.mem_of_getElem? (i := 662) (by decide +kernel)⟩
theorem lw_p10 : lw_okq (⟨"DictationBeltModel", "canBegin", "()Z"⟩, 10) := ⟨⟨by decide +kernel, by decide +kernel⟩, List.mem_of_getElem? (i := 673) (by decide +kernel), List.mem_of_getElem? (i := 718) (by decide +kernel), List.mem_of_getElem? (i := 719) (by decide +kernel)⟩
theorem lw_p11 : lw_okq (⟨"DictationBeltModel", "cells", "(I)I"⟩, 10) := ⟨⟨by decide +kernel, by decide +kernel⟩, List.mem_of_getElem? (i := 673) (by decide +kernel), List.mem_of_getElem? (i := 722) (by decide +kernel), List.mem_of_getElem? (i := 723) (by decide +kernel)⟩
theorem lw_p12 : lw_okq (⟨"DictationBeltModel", "holds", "(I)Z"⟩, 10) := ⟨⟨by decide +kernel, by decide +kernel⟩, List.mem_of_getElem? (i := 673) (by decide +kernel), List.mem_of_getElem? (i := 726) (by decide +kernel), List.mem_of_getElem? (i := 727) (by decide +kernel)⟩
theorem lw_p13 : lw_okq (⟨"DictationBeltModel", "save", "()V"⟩, 10) := ⟨⟨by decide +kernel, by decide +kernel⟩, List.mem_of_getElem? (i := 673) (by decide +kernel), List.mem_of_getElem? (i := 730) (by decide +kernel), List.mem_of_getElem? (i := 731) (by decide +kernel)⟩
theorem lw_p14 : lw_okq (⟨"DictationBeltModel", "copies", "(II)V"⟩, 10) := ⟨⟨by decide +kernel, by decide +kernel⟩, List.mem_of_getElem? (i := 673) (by decide +kernel), List.mem_of_getElem? (i := 734) (by decide +kernel), List.mem_of_getElem? (i := 735) (by decide +kernel)⟩
theorem lw_p15 : lw_okq (⟨"DictationBeltModel", "begins", "()I"⟩, 10) := ⟨⟨by decide +kernel, by decide +kernel⟩, List.mem_of_getElem? (i := 673) (by decide +kernel), List.mem_of_getElem? (i := 738) (by decide +kernel), List.mem_of_getElem? (i := 739) (by decide +kernel)⟩
def lw_privs_1 : List (MethodName × Nat) := [(⟨"DictationBelt", "withRecording", "(JI)J"⟩, 5), (⟨"java/lang/Throwable", "fillInStackTrace", "(I)Ljava/lang/Throwable;"⟩, 6), (⟨"DictationBelt", "save", "()V"⟩, 5), (⟨"DictationBelt", "slotAt", "(I)LDictationBelt$State;"⟩, 5), (⟨"DictationBelt", "requireRecording", "(I)V"⟩, 5), (⟨"DictationBelt", "requirePlace", "(II)V"⟩, 5), (⟨"DictationBelt", "requirePlayer", "()V"⟩, 5), (⟨"DictationBelt", "obeyOrders", "()I"⟩, 5), (⟨"DictationBelt", "mayObey", "(III)Z"⟩, 5), (⟨"DictationBelt", "obey", "(III)V"⟩, 5), (⟨"DictationBeltModel", "canBegin", "()Z"⟩, 10), (⟨"DictationBeltModel", "cells", "(I)I"⟩, 10), (⟨"DictationBeltModel", "holds", "(I)Z"⟩, 10), (⟨"DictationBeltModel", "save", "()V"⟩, 10), (⟨"DictationBeltModel", "copies", "(II)V"⟩, 10), (⟨"DictationBeltModel", "begins", "()I"⟩, 10)]
theorem lw_r1 : ∀ q ∈ lw_privs_1, lw_okq q := List.forall_mem_cons.mpr ⟨lw_p0, List.forall_mem_cons.mpr ⟨lw_p1, List.forall_mem_cons.mpr ⟨lw_p2, List.forall_mem_cons.mpr ⟨lw_p3, List.forall_mem_cons.mpr ⟨lw_p4, List.forall_mem_cons.mpr ⟨lw_p5, List.forall_mem_cons.mpr ⟨lw_p6, List.forall_mem_cons.mpr ⟨lw_p7, List.forall_mem_cons.mpr ⟨lw_p8, List.forall_mem_cons.mpr ⟨lw_p9, List.forall_mem_cons.mpr ⟨lw_p10, List.forall_mem_cons.mpr ⟨lw_p11, List.forall_mem_cons.mpr ⟨lw_p12, List.forall_mem_cons.mpr ⟨lw_p13, List.forall_mem_cons.mpr ⟨lw_p14, List.forall_mem_cons.mpr ⟨lw_p15, fun _ h => absurd h List.not_mem_nil⟩⟩⟩⟩⟩⟩⟩⟩⟩⟩⟩⟩⟩⟩⟩⟩
theorem lw_p16 : lw_okq (⟨"DictationBeltModel", "halts", "()I"⟩, 10) := ⟨⟨by decide +kernel, by decide +kernel⟩, List.mem_of_getElem? (i := 673) (by decide +kernel), List.mem_of_getElem? (i := 742) (by decide +kernel), List.mem_of_getElem? (i := 743) (by decide +kernel)⟩
theorem lw_p17 : lw_okq (⟨"DictationBeltModel", "leaves", "(I)V"⟩, 10) := ⟨⟨by decide +kernel, by decide +kernel⟩, List.mem_of_getElem? (i := 673) (by decide +kernel), List.mem_of_getElem? (i := 746) (by decide +kernel), List.mem_of_getElem? (i := 747) (by decide +kernel)⟩
theorem lw_p18 : lw_okq (⟨"DictationBeltModel", "canSpeak", "(I)Z"⟩, 10) := ⟨⟨by decide +kernel, by decide +kernel⟩, List.mem_of_getElem? (i := 673) (by decide +kernel), List.mem_of_getElem? (i := 764) (by decide +kernel), List.mem_of_getElem? (i := 765) (by decide +kernel)⟩
theorem lw_p19 : lw_okq (⟨"DictationBeltModel", "writable", "()I"⟩, 10) := ⟨⟨by decide +kernel, by decide +kernel⟩, List.mem_of_getElem? (i := 673) (by decide +kernel), List.mem_of_getElem? (i := 768) (by decide +kernel), List.mem_of_getElem? (i := 769) (by decide +kernel)⟩
theorem lw_p20 : lw_okq (⟨"DictationBeltModel", "isWritable", "(I)Z"⟩, 10) := ⟨⟨by decide +kernel, by decide +kernel⟩, List.mem_of_getElem? (i := 673) (by decide +kernel), List.mem_of_getElem? (i := 772) (by decide +kernel), List.mem_of_getElem? (i := 773) (by decide +kernel)⟩
theorem lw_p21 : lw_okq (⟨"DictationBeltModel", "speaks", "(I)I"⟩, 10) := ⟨⟨by decide +kernel, by decide +kernel⟩, List.mem_of_getElem? (i := 673) (by decide +kernel), List.mem_of_getElem? (i := 776) (by decide +kernel), List.mem_of_getElem? (i := 777) (by decide +kernel)⟩
theorem lw_p22 : lw_okq (⟨"DictationBeltModel", "loses", "(I)V"⟩, 10) := ⟨⟨by decide +kernel, by decide +kernel⟩, List.mem_of_getElem? (i := 673) (by decide +kernel), List.mem_of_getElem? (i := 780) (by decide +kernel), List.mem_of_getElem? (i := 781) (by decide +kernel)⟩
theorem lw_p23 : lw_okq (⟨"DictationBeltModel", "placeOf", "(I)I"⟩, 10) := ⟨⟨by decide +kernel, by decide +kernel⟩, List.mem_of_getElem? (i := 673) (by decide +kernel), List.mem_of_getElem? (i := 784) (by decide +kernel), List.mem_of_getElem? (i := 785) (by decide +kernel)⟩
theorem lw_p24 : lw_okq (⟨"DictationBeltModel", "isRecording", "(I)Z"⟩, 10) := ⟨⟨by decide +kernel, by decide +kernel⟩, List.mem_of_getElem? (i := 673) (by decide +kernel), List.mem_of_getElem? (i := 792) (by decide +kernel), List.mem_of_getElem? (i := 793) (by decide +kernel)⟩
theorem lw_p25 : lw_okq (⟨"DictationBeltModel", "told", "(I)I"⟩, 10) := ⟨⟨by decide +kernel, by decide +kernel⟩, List.mem_of_getElem? (i := 673) (by decide +kernel), List.mem_of_getElem? (i := 811) (by decide +kernel), List.mem_of_getElem? (i := 812) (by decide +kernel)⟩
theorem lw_p26 : lw_okq (⟨"DictationBeltModel", "ofPlace", "(III)I"⟩, 10) := ⟨⟨by decide +kernel, by decide +kernel⟩, List.mem_of_getElem? (i := 673) (by decide +kernel), List.mem_of_getElem? (i := 831) (by decide +kernel), List.mem_of_getElem? (i := 832) (by decide +kernel)⟩
theorem lw_p27 : lw_okq (⟨"DictationBeltModel", "cellAt", "(II)I"⟩, 10) := ⟨⟨by decide +kernel, by decide +kernel⟩, List.mem_of_getElem? (i := 673) (by decide +kernel), List.mem_of_getElem? (i := 835) (by decide +kernel), List.mem_of_getElem? (i := 836) (by decide +kernel)⟩
theorem lw_p28 : lw_okq (⟨"DictationBeltModel", "goes", "(I)I"⟩, 10) := ⟨⟨by decide +kernel, by decide +kernel⟩, List.mem_of_getElem? (i := 673) (by decide +kernel), List.mem_of_getElem? (i := 876) (by decide +kernel), List.mem_of_getElem? (i := 877) (by decide +kernel)⟩
theorem lw_p29 : lw_okq (⟨"DictationBeltModel", "plays", "()I"⟩, 10) := ⟨⟨by decide +kernel, by decide +kernel⟩, List.mem_of_getElem? (i := 673) (by decide +kernel), List.mem_of_getElem? (i := 884) (by decide +kernel), List.mem_of_getElem? (i := 885) (by decide +kernel)⟩
theorem lw_p30 : lw_okq (⟨"DictationBeltModel", "goesBack", "(I)I"⟩, 10) := ⟨⟨by decide +kernel, by decide +kernel⟩, List.mem_of_getElem? (i := 673) (by decide +kernel), List.mem_of_getElem? (i := 892) (by decide +kernel), List.mem_of_getElem? (i := 893) (by decide +kernel)⟩
theorem lw_p31 : lw_okq (⟨"DictationBeltModel", "correctedCells", "()I"⟩, 10) := ⟨⟨by decide +kernel, by decide +kernel⟩, List.mem_of_getElem? (i := 673) (by decide +kernel), List.mem_of_getElem? (i := 916) (by decide +kernel), List.mem_of_getElem? (i := 917) (by decide +kernel)⟩
def lw_privs_2 : List (MethodName × Nat) := [(⟨"DictationBeltModel", "halts", "()I"⟩, 10), (⟨"DictationBeltModel", "leaves", "(I)V"⟩, 10), (⟨"DictationBeltModel", "canSpeak", "(I)Z"⟩, 10), (⟨"DictationBeltModel", "writable", "()I"⟩, 10), (⟨"DictationBeltModel", "isWritable", "(I)Z"⟩, 10), (⟨"DictationBeltModel", "speaks", "(I)I"⟩, 10), (⟨"DictationBeltModel", "loses", "(I)V"⟩, 10), (⟨"DictationBeltModel", "placeOf", "(I)I"⟩, 10), (⟨"DictationBeltModel", "isRecording", "(I)Z"⟩, 10), (⟨"DictationBeltModel", "told", "(I)I"⟩, 10), (⟨"DictationBeltModel", "ofPlace", "(III)I"⟩, 10), (⟨"DictationBeltModel", "cellAt", "(II)I"⟩, 10), (⟨"DictationBeltModel", "goes", "(I)I"⟩, 10), (⟨"DictationBeltModel", "plays", "()I"⟩, 10), (⟨"DictationBeltModel", "goesBack", "(I)I"⟩, 10), (⟨"DictationBeltModel", "correctedCells", "()I"⟩, 10)]
theorem lw_r2 : ∀ q ∈ lw_privs_2, lw_okq q := List.forall_mem_cons.mpr ⟨lw_p16, List.forall_mem_cons.mpr ⟨lw_p17, List.forall_mem_cons.mpr ⟨lw_p18, List.forall_mem_cons.mpr ⟨lw_p19, List.forall_mem_cons.mpr ⟨lw_p20, List.forall_mem_cons.mpr ⟨lw_p21, List.forall_mem_cons.mpr ⟨lw_p22, List.forall_mem_cons.mpr ⟨lw_p23, List.forall_mem_cons.mpr ⟨lw_p24, List.forall_mem_cons.mpr ⟨lw_p25, List.forall_mem_cons.mpr ⟨lw_p26, List.forall_mem_cons.mpr ⟨lw_p27, List.forall_mem_cons.mpr ⟨lw_p28, List.forall_mem_cons.mpr ⟨lw_p29, List.forall_mem_cons.mpr ⟨lw_p30, List.forall_mem_cons.mpr ⟨lw_p31, fun _ h => absurd h List.not_mem_nil⟩⟩⟩⟩⟩⟩⟩⟩⟩⟩⟩⟩⟩⟩⟩⟩
theorem lw_p32 : lw_okq (⟨"DictationBeltModel", "loser", "()I"⟩, 10) := ⟨⟨by decide +kernel, by decide +kernel⟩, List.mem_of_getElem? (i := 673) (by decide +kernel), List.mem_of_getElem? (i := 928) (by decide +kernel), List.mem_of_getElem? (i := 929) (by decide +kernel)⟩
theorem lw_p33 : lw_okq (⟨"DictationBeltModel", "loss", "(II)I"⟩, 10) := ⟨⟨by decide +kernel, by decide +kernel⟩, List.mem_of_getElem? (i := 673) (by decide +kernel), List.mem_of_getElem? (i := 936) (by decide +kernel), List.mem_of_getElem? (i := 937) (by decide +kernel)⟩
theorem lw_p34 : lw_okq (⟨"DictationBeltModel", "areOrders", "()Z"⟩, 10) := ⟨⟨by decide +kernel, by decide +kernel⟩, List.mem_of_getElem? (i := 673) (by decide +kernel), List.mem_of_getElem? (i := 956) (by decide +kernel), List.mem_of_getElem? (i := 957) (by decide +kernel)⟩
theorem lw_p35 : lw_okq (⟨"DictationBeltModel", "readsOrder", "()Z"⟩, 10) := ⟨⟨by decide +kernel, by decide +kernel⟩, List.mem_of_getElem? (i := 673) (by decide +kernel), List.mem_of_getElem? (i := 960) (by decide +kernel), List.mem_of_getElem? (i := 961) (by decide +kernel)⟩
theorem lw_p36 : lw_okq (⟨"DictationBeltModel", "sign", "()I"⟩, 10) := ⟨⟨by decide +kernel, by decide +kernel⟩, List.mem_of_getElem? (i := 673) (by decide +kernel), List.mem_of_getElem? (i := 964) (by decide +kernel), List.mem_of_getElem? (i := 965) (by decide +kernel)⟩
theorem lw_p37 : lw_okq (⟨"DictationBeltModel", "takes", "(I)Z"⟩, 10) := ⟨⟨by decide +kernel, by decide +kernel⟩, List.mem_of_getElem? (i := 673) (by decide +kernel), List.mem_of_getElem? (i := 968) (by decide +kernel), List.mem_of_getElem? (i := 969) (by decide +kernel)⟩
theorem lw_p38 : lw_okq (⟨"DictationBeltModel", "number", "(II)I"⟩, 10) := ⟨⟨by decide +kernel, by decide +kernel⟩, List.mem_of_getElem? (i := 673) (by decide +kernel), List.mem_of_getElem? (i := 972) (by decide +kernel), List.mem_of_getElem? (i := 973) (by decide +kernel)⟩
theorem lw_p39 : lw_okq (⟨"DictationBeltModel", "can", "()Z"⟩, 10) := ⟨⟨by decide +kernel, by decide +kernel⟩, List.mem_of_getElem? (i := 673) (by decide +kernel), List.mem_of_getElem? (i := 980) (by decide +kernel), List.mem_of_getElem? (i := 981) (by decide +kernel)⟩
theorem lw_p40 : lw_okq (⟨"DictationBeltModel", "does", "()V"⟩, 10) := ⟨⟨by decide +kernel, by decide +kernel⟩, List.mem_of_getElem? (i := 673) (by decide +kernel), List.mem_of_getElem? (i := 984) (by decide +kernel), List.mem_of_getElem? (i := 985) (by decide +kernel)⟩
theorem lw_p41 : lw_okq (⟨"DictationBeltModel", "mix", "(J)V"⟩, 10) := ⟨⟨by decide +kernel, by decide +kernel⟩, List.mem_of_getElem? (i := 673) (by decide +kernel), List.mem_of_getElem? (i := 1001) (by decide +kernel), List.mem_of_getElem? (i := 1002) (by decide +kernel)⟩
def lw_privs_3 : List (MethodName × Nat) := [(⟨"DictationBeltModel", "loser", "()I"⟩, 10), (⟨"DictationBeltModel", "loss", "(II)I"⟩, 10), (⟨"DictationBeltModel", "areOrders", "()Z"⟩, 10), (⟨"DictationBeltModel", "readsOrder", "()Z"⟩, 10), (⟨"DictationBeltModel", "sign", "()I"⟩, 10), (⟨"DictationBeltModel", "takes", "(I)Z"⟩, 10), (⟨"DictationBeltModel", "number", "(II)I"⟩, 10), (⟨"DictationBeltModel", "can", "()Z"⟩, 10), (⟨"DictationBeltModel", "does", "()V"⟩, 10), (⟨"DictationBeltModel", "mix", "(J)V"⟩, 10)]
theorem lw_r3 : ∀ q ∈ lw_privs_3, lw_okq q := List.forall_mem_cons.mpr ⟨lw_p32, List.forall_mem_cons.mpr ⟨lw_p33, List.forall_mem_cons.mpr ⟨lw_p34, List.forall_mem_cons.mpr ⟨lw_p35, List.forall_mem_cons.mpr ⟨lw_p36, List.forall_mem_cons.mpr ⟨lw_p37, List.forall_mem_cons.mpr ⟨lw_p38, List.forall_mem_cons.mpr ⟨lw_p39, List.forall_mem_cons.mpr ⟨lw_p40, List.forall_mem_cons.mpr ⟨lw_p41, fun _ h => absurd h List.not_mem_nil⟩⟩⟩⟩⟩⟩⟩⟩⟩⟩
def lw_privs : List (MethodName × Nat) := lw_privs_1 ++ (lw_privs_2 ++ (lw_privs_3))
def lw_tbl : List Cond := k2_sels lw_privs ++ tables_1
theorem lw_privs_ok : ∀ q ∈ lw_privs, lw_okq q := by
  show ∀ q ∈ lw_privs_1 ++ (lw_privs_2 ++ (lw_privs_3)), lw_okq q
  exact List.forall_mem_append.mpr ⟨lw_r1, List.forall_mem_append.mpr ⟨lw_r2, lw_r3⟩⟩
/-- the streams that the claim lets the run draw from -/
abbrev lw_cs : List Choice := [Jvm.Choice.named "NaN.bits"]
theorem lw_bits : nanBits ∈ lw_cs := by first | decide | exact List.mem_cons_self | simp [lw_cs, nanBits]
-- ===== end of PART A; then your names; then what follows =====
end
section
/-! ===== BEGIN words of one list among another's, by their places ===== -/
theorem goodIn_r {big : List Cond} (ws : List Cond) (ps : List Nat) (hp : ws = ps.filterMap (fun i => big[i]?)) (h : ws.all goodWord = true) : GoodIn big ws := by
  intro w hw
  have h1 := List.all_eq_true.mp h w hw
  rw [hp] at hw
  obtain ⟨i, -, hi⟩ := List.mem_filterMap.mp hw
  have hm : w ∈ big := by first | exact List.mem_of_getElem? hi | exact List.getElem?_mem hi
  exact ⟨hm, good_of_word h1⟩
theorem goodIn_app {big a b : List Cond} (ha : GoodIn big a) (hb : GoodIn big b) : GoodIn big (a ++ b) := fun w h => (List.mem_append.mp h).elim (ha w) (hb w)
theorem goodIn_ca {big a b : List Cond} {c : Cond} (ha : GoodIn big (c :: a)) (hb : GoodIn big b) : GoodIn big (c :: (a ++ b)) := fun w h => (List.mem_cons.mp h).elim (fun e => ha w (List.mem_cons.mpr (Or.inl e))) (fun h => (List.mem_append.mp h).elim (fun h => ha w (List.mem_cons.mpr (Or.inr h))) (hb w))
theorem goodIn_sub {big ws : List Cond} (hm : ∀ w ∈ ws, w ∈ big) (h : ws.all goodWord = true) : GoodIn big ws := fun w hw => ⟨hm w hw, good_of_word (List.all_eq_true.mp h w hw)⟩
/-! ===== END ===== -/

/-! ===== BEGIN exceptions that leave a method, and their catching by the caller (launches without stack traces) ===== -/
section VXA
/-! The laws vx_back, vx_callV, vx_callS, vx_callSW, vx_throw0, vx_throwS follow proofs of the library, with one case more: JvmDerived/Free/Laws.lean (Back.of_free), Shelf42/LK1.lean (callV, callS), Shelf/KitTraced.lean (throwNew0V, throwNewS). -/
/-- where a method has thrown q: the class by its name, the cell, what was written, the world -/
def vx_T (XC : String → State → State → Prop) (st : State) (q : Addr) (t : State) (mc ms : Nat) (free : Addr → Prop) : Prop :=
  ∃ (E : String) (ce : Cell) (L : List Loc), XC E st t ∧ t.heap[q]? = some ce ∧ ce.vm = .none ∧ st.vm.findClass E = some ce.cls ∧ st.WarmedH t.vm ∧ st.sameButNew ({ t with vm := st.vm } : State) L mc ms ∧ ∀ z ∈ L, free z.base
def vx_Q (Qc : Array Value → State → Outcome → State → Prop) (XC : String → State → State → Prop) (mc ms : Nat) (free : Addr → Prop) : Array Value → State → Outcome → State → Prop := fun a st o t =>
  (Qc a st o t ∧ ∃ L, FrameEnd st o t L mc ms ∧ ∀ q ∈ L, free q.base) ∨ ∃ q, o = .threw q ∧ vx_T XC st q t mc ms free
/-- a callee that returns or throws -/
def vx_Met (l : Launch) (y : MethodName) (ws : List Cond) (rm : Room) (Pc : Array Value → State → Prop) (Qc : Array Value → State → Outcome → State → Prop) (XC : String → State → State → Prop) (mc ms : Nat) (free : Addr → Prop) : Prop :=
  MetFree l y (headSpec ws rm) Pc (fun _ _ _ _ _ => True) (vx_Q Qc XC mc ms free)
def vx_Post (XC : String → State → State → Prop) (mc ms : Nat) (free : Addr → Prop) : Pt → Array Value → Addr → Pt → Prop := fun A a q B =>
  ∃ (g : JFrame) (mk : MethodId) (t : State) (L : List Loc) (E : String) (ce : Cell), B.U.heap = t.heap ∧ B.U.vm = t.vm ∧ XC E (A.U.calling g mk a) t ∧ t.heap[q]? = some ce ∧ ce.vm = .none ∧ A.U.vm.findClass E = some ce.cls ∧ B.locs = A.locs ++ L ∧ (∀ z ∈ L, free z.base) ∧ B.cells = A.cells + mc ∧ B.slots = A.slots + ms
def vx_Back (l : Launch) (R : Room) (p : Program) (e : Env) (below : List Frame) (s : State) (sargs : Array Value) (y : MethodName) (len W9 : Nat)
    (Pre : Pt → Array Value → Prop) (Post : Pt → Array Value → Option Value → Pt → Prop) (PostX : Pt → Array Value → Addr → Pt → Prop) : Prop :=
  ∀ (m : MethodId) (meth : Method) (c : Code) (A : Pt) (g : JFrame) (ig : Instr) (mk : MethodId) (a : Array Value),
    Stand p l e R s m sargs below meth c A.U A.locs A.cells A.slots → g.method = m → g.locals.size = c.maxLocals → decode c.code g.pc = .ok (ig, len) →
    2 * g.monitorRoom + (g.stack.map fun v => v.category).sum ≤ W9 → A.U.methodNamed? y = some mk → Pre A a →
    (∃ (v : Option Value) (B : Pt), Stand p l e R s m sargs below meth c B.U B.locs B.cells B.slots ∧ Post A a v B ∧
      Steps p.tables e below (doInvoke e (A.U.setTop g) [] mk a).1 (B.U.setTop { g with pc := g.pc + len, stack := v.toList ++ g.stack })) ∨
    (∃ (q : Addr) (B : Pt), Stand p l e R s m sargs below meth c B.U B.locs B.cells B.slots ∧ PostX A a q B ∧
      Steps p.tables e below (doInvoke e (A.U.setTop g) [] mk a).1 ((B.U.setTop g).pushFrame (.throwing q)))
section Payer
variable {l : Launch} {R : Room} {p : Program} {e : Env} {below : List Frame} {s : State} {sargs : Array Value} {y : MethodName} {len W9 : Nat}
theorem vx_back {ws : List Cond} {rm : Room} {Pc : Array Value → State → Prop} {Qc : Array Value → State → Outcome → State → Prop} {XC : String → State → State → Prop} {mc ms : Nat} {free : Addr → Prop} {bytes : ByteArray} {maxL : Nat} {ret : Option FieldType}
    (hM : vx_Met l y ws rm Pc Qc XC mc ms free) (hblind : FrameBlind Pc) (hrc : rm.cells = mc) (hrs : rm.slots = ms)
    (hframes : rm.frames + 1 ≤ R.frames) (hlocals : W9 + (maxL + 11) + rm.locals ≤ R.locals)
    (hws : ∀ w ∈ ws, ∀ a' U, s.WarmedH U.vm → w.before a' U = true) (hcode : Cond.code y bytes maxL ret ∈ ws) (hinit : ∀ a' U, s.WarmedH U.vm → (Cond.initialized y.cls).before a' U = true) :
    vx_Back l R p e below s sargs y len W9 (PreOf R mc ms Pc) (PostOf Qc mc ms free) (vx_Post XC mc ms free) := by
  intro m meth c A g ig mk a X hg hsize hdg hW hn hp
  have h1 : (headSpec ws rm).pre.before a A.U = true := atoms_intro fun w hw => hws w hw _ _ X.warmed
  have h2 : (Cond.code y bytes maxL ret).before a A.U = true := hws _ hcode _ _ X.warmed
  have h3 : (Cond.initialized y.cls).before a A.U = true := hinit _ _ X.warmed
  have h4 : A.cells + (headSpec ws rm).room.cells ≤ R.cells := by rw [show (headSpec ws rm).room.cells = mc from hrc]; exact hp.1
  have h5 : A.slots + (headSpec ws rm).room.slots ≤ R.slots := by rw [show (headSpec ws rm).room.slots = ms from hrs]; exact hp.2.1
  have hPc : Pc a (A.U.calling g mk a) := hblind _ _ _ _ hp.2.2
  obtain ⟨U, Ls, c0, s0⟩ := A
  dsimp only [Pt.U, Pt.locs, Pt.cells, Pt.slots] at h1 h2 h3 h4 h5 X hn hPc ⊢
  obtain ⟨methY, cY, hmY, hcY, -, hlY, -, -, -, -⟩ := Cond.code_spec hn h2
  obtain ⟨kY, hkY, -⟩ := className_of_methodNamed hn
  have hinitY : kY.init = .initialized := Cond.initialized_spec (findClass_of_methodNamed hn) hkY h3
  have h : At U g.method c below := by rw [hg]; exact X.here
  have hlocals9 : W9 + (maxL + 11) + (headSpec ws rm).room.locals ≤ R.locals := hlocals
  have happ : (headSpec ws rm).appliesLoose y e.platform (U.calling g mk a) = true :=
    Spec.appliesLoose_calling (g := g) h hdg hn hkY hinitY
      (X.room_calling (g := g) (R' := (headSpec ws rm).room) hsize hmY hcY hframes (by rw [hlY]; omega) h4 h5) h1
  obtain ⟨mid, hmid⟩ := h.above
  have hfr : (U.setTop g).frames = (.java g :: mid) ++ below := by rw [State.frames_setTop' g h.top, hmid]; rfl
  obtain ⟨o, s₂, hsteps, -, hend, hq⟩ := Steps.callFree hM p X.admits X.cas X.clock (acts := []) hfr happ hPc trivial
  have hq' : vx_Q Qc XC mc ms free a (U.calling g mk a) o s₂ := hq
  rw [State.frames_setTop' g h.top] at hend
  obtain ⟨g₀, hg0⟩ := Option.isSome_iff_exists.mp h.top
  obtain ⟨r, hr⟩ := State.topJava?_eq_some.mp hg0
  have hr' : (({ U with heap := s₂.heap, slotsUsed := s₂.slotsUsed } : State).setVm s₂.vm).frames = .java g₀ :: r := hr
  rcases hq' with ⟨hqc, L, hfe, hL⟩ | ⟨q, rfl, E, ce, L, hx, hce, hcv, hcl, hW₂, hsm, hL⟩
  · obtain ⟨⟨v, rfl⟩, hW₂, e2, q2, q3, q4, q5, q6⟩ := id hfe
    have e3 : s₂ = ({ (U.calling g mk a).setFrames s₂.frames with heap := s₂.heap, slotsUsed := s₂.slotsUsed } : State).setVm s₂.vm := by
      have : s₂ = ({ s₂ with vm := (U.calling g mk a).vm } : State).setVm s₂.vm := rfl
      rw [e2] at this
      exact this
    obtain ⟨c₂, i₂, len₂, hc₂, hd₂, hf₂⟩ := hend
    have hW' : U.WarmedH s₂.vm := hW₂
    have hcc : c₂ = c := by
      have h1 : s₂.code? g.method = U.code? g.method := by
        rw [State.code?_eq, State.code?_eq, hW'.alike.method?]
      exact Option.some.inj (hc₂.symm.trans (h1.trans h.code))
    subst hcc
    have hlen : len₂ = len := by rw [hdg] at hd₂; cases hd₂; rfl
    subst hlen
    have hs₂ : s₂ = (({ U with heap := s₂.heap, slotsUsed := s₂.slotsUsed } : State).setVm s₂.vm).setTop { g with pc := g.pc + len₂, stack := v.toList ++ g.stack } := by
      refine e3.trans ?_
      rw [hf₂, State.calling_eq h.top, State.setFrames_setFrames, State.setTop_of_frames _ hr', hr]
      rfl
    have hsame : U.sameButNew ({ U with heap := s₂.heap, slotsUsed := s₂.slotsUsed } : State) L mc ms := by
      refine ⟨?_, q2, q3, q4, q5, q6⟩
      obtain ⟨t, ht, -⟩ := State.frames_cons hr
      show ({ U with heap := s₂.heap, slotsUsed := s₂.slotsUsed } : State) = { U.setFrames U.frames with heap := s₂.heap, slotsUsed := s₂.slotsUsed }
      rw [State.setFrames_self ht]
    subst hg
    refine Or.inl ⟨v, ⟨(({ U with heap := s₂.heap, slotsUsed := s₂.slotsUsed } : State).setVm s₂.vm), Ls ++ L, c0 + mc, s0 + ms⟩,
      ⟨X.admits, X.cas, X.clock, X.frames, X.room, X.hears, X.method, X.code, (X.here.setHeapUsed s₂.heap s₂.slotsUsed).setVm hW'.alike, X.tail, State.WarmedH.trans X.warmed hW', X.limits, X.bytes, X.same.trans (hsame.setVm s.vm)⟩,
      ⟨g, mk, s₂, L, rfl, rfl, hqc, rfl, hL, rfl, rfl⟩, ?_⟩
    show Steps p.tables e below _ ((({ U with heap := s₂.heap, slotsUsed := s₂.slotsUsed } : State).setVm s₂.vm).setTop { g with pc := g.pc + len₂, stack := v.toList ++ g.stack })
    rw [← hs₂]
    exact hsteps
  · obtain ⟨e2, q2, q3, q4, q5, q6⟩ := id hsm
    have e3 : s₂ = ({ (U.calling g mk a).setFrames s₂.frames with heap := s₂.heap, slotsUsed := s₂.slotsUsed } : State).setVm s₂.vm := by
      have : s₂ = ({ s₂ with vm := (U.calling g mk a).vm } : State).setVm s₂.vm := rfl
      rw [e2] at this
      exact this
    have hf₂ : s₂.frames = .throwing q :: .java g :: U.frames.tail := hend
    have hW' : U.WarmedH s₂.vm := hW₂
    have hs₂ : s₂ = ((({ U with heap := s₂.heap, slotsUsed := s₂.slotsUsed } : State).setVm s₂.vm).setTop g).pushFrame (.throwing q) := by
      refine e3.trans ?_
      rw [hf₂, State.calling_eq h.top, State.setFrames_setFrames, State.pushFrame, State.frames_setTop _ hr', State.setTop_of_frames _ hr', State.setFrames_setFrames, hr]
      rfl
    have hsame : U.sameButNew ({ U with heap := s₂.heap, slotsUsed := s₂.slotsUsed } : State) L mc ms := by
      refine ⟨?_, q2, q3, q4, q5, q6⟩
      obtain ⟨t, ht, -⟩ := State.frames_cons hr
      show ({ U with heap := s₂.heap, slotsUsed := s₂.slotsUsed } : State) = { U.setFrames U.frames with heap := s₂.heap, slotsUsed := s₂.slotsUsed }
      rw [State.setFrames_self ht]
    subst hg
    refine Or.inr ⟨q, ⟨(({ U with heap := s₂.heap, slotsUsed := s₂.slotsUsed } : State).setVm s₂.vm), Ls ++ L, c0 + mc, s0 + ms⟩,
      ⟨X.admits, X.cas, X.clock, X.frames, X.room, X.hears, X.method, X.code, (X.here.setHeapUsed s₂.heap s₂.slotsUsed).setVm hW'.alike, X.tail, State.WarmedH.trans X.warmed hW', X.limits, X.bytes, X.same.trans (hsame.setVm s.vm)⟩,
      ⟨g, mk, s₂, L, E, ce, rfl, rfl, hx, hce, hcv, hcl, rfl, hL, rfl, rfl⟩, ?_⟩
    show Steps p.tables e below _ (((({ U with heap := s₂.heap, slotsUsed := s₂.slotsUsed } : State).setVm s₂.vm).setTop g).pushFrame (.throwing q))
    rw [← hs₂]
    exact hsteps
end Payer
section Calls
variable {p : Program} {l : Launch} {e : Env} {R : Room} {s : State} {m : MethodId} {args : Array Value} {below : List Frame} {meth : Method} {c : Code} {T : State} {locs : List Loc} {cells slots : Nat}
theorem vx_callV (X : Stand p l e R s m args below meth c T locs cells slots) (hexec : p.tables.exec = Jvm.exec) {own C : String} {index : Nat} {y : MethodName} {bytes : ByteArray} {maxL : Nat} {ret : Option FieldType}
    (hown : s.vm.findClass own = some m.cls) (hlink : (Cond.methodLink own index y).before args s = true) (hinst : (Cond.instanceMethod y).before args s = true) (hsel : (Cond.selects C y y).before args s = true)
    (hcode : (Cond.code y bytes maxL ret).before args s = true) (hy : y.cls ≠ "java/lang/invoke/MethodHandle" ∧ y.cls ≠ "java/lang/invoke/VarHandle")
    {W9 : Nat} {Pre : Pt → Array Value → Prop} {Post : Pt → Array Value → Option Value → Pt → Prop} {PostX : Pt → Array Value → Addr → Pt → Prop} (hK : vx_Back l R p e below s args y 3 W9 Pre Post PostX)
    {b : Addr} {cellB : Cell} (hcell : T.heap[b]? = some cellB) (hobj : cellB.vm.isStatics = false) (hcls : s.vm.findClass C = some cellB.cls)
    {g : JFrame} (hg : g.method = m) (hsize : g.locals.size = c.maxLocals) {argsL rest : List Value} (hlen : ∀ sig, parseMethodDescriptor y.desc = some sig → argsL.length = sig.parameters.length)
    (hstack : g.stack = argsL.reverse ++ .ref b :: rest) (hW : 2 * g.monitorRoom + (rest.map fun v => v.category).sum ≤ W9) (hdg : decode c.code g.pc = .ok (.invokevirtual index, 3))
    (hpre : ∀ vm₁, s.WarmedH vm₁ → Pre ⟨T.setVm vm₁, locs, cells, slots⟩ (Value.ref b :: argsL).toArray) :
    (∃ (v : Option Value) (vm₁ : Vm) (B : Pt), s.WarmedH vm₁ ∧ Stand p l e R s m args below meth c B.U B.locs B.cells B.slots ∧ Post ⟨T.setVm vm₁, locs, cells, slots⟩ (Value.ref b :: argsL).toArray v B ∧
      ∀ target, Steps p.tables e below (B.U.setTop { g with pc := g.pc + 3, stack := v.toList ++ rest }) target → Steps p.tables e below (T.setTop g) target) ∨
    (∃ (q : Addr) (vm₁ : Vm) (B : Pt), s.WarmedH vm₁ ∧ Stand p l e R s m args below meth c B.U B.locs B.cells B.slots ∧ PostX ⟨T.setVm vm₁, locs, cells, slots⟩ (Value.ref b :: argsL).toArray q B ∧
      Steps p.tables e below (T.setTop g) ((B.U.setTop { g with stack := rest }).pushFrame (.throwing q))) := by
  obtain ⟨mk, methM, hnamed, hmethM, hstM, habM⟩ := Cond.instanceMethod_spec hinst
  obtain ⟨methM', cM, hmethM', -, -, -, -, -, -, hsigM⟩ := Cond.code_spec hnamed hcode
  cases hmethM.symm.trans hmethM'
  obtain ⟨c2, r2, m2, q1, q2, q3, q4, kP, hkP, hkPi⟩ := Cond.selects_spec hsel
  cases hcls.symm.trans q1
  cases (State.methodFound?_of_named hnamed hy).symm.trans q2
  cases hnamed.symm.trans q3
  have hselP : selectMethod e.platform s.vm cellB.cls mk = .method mk := by rw [Launch.admits_selectMethod X.admits]; exact q4
  obtain ⟨vm₁, X₁, hstep₁⟩ := X.invokevirtual hexec hown hlink hnamed hmethM hstM hkP hkPi hy (a := b) (cell := cellB) hcell
    (fun z h => by rw [h] at hobj; cases hobj) hselP hmethM habM hkP hkPi (g := g) hg (argsL := argsL) (rest := rest) (hlen _ hsigM) hstack hdg
  rcases hK m meth c ⟨T.setVm vm₁, locs, cells, slots⟩ { g with stack := rest } (.invokevirtual index) mk (Value.ref b :: argsL).toArray X₁ hg hsize hdg hW (X₁.named hnamed) (hpre vm₁ X₁.warmed) with ⟨v, B, X', hpost, hsteps⟩ | ⟨q, B, X', hpost, hsteps⟩
  · exact Or.inl ⟨v, vm₁, B, X₁.warmed, X', hpost, fun target h => hstep₁ _ fun acts => by rw [doInvoke_state]; exact hsteps.trans h⟩
  · exact Or.inr ⟨q, vm₁, B, X₁.warmed, X', hpost, hstep₁ _ fun acts => by rw [doInvoke_state]; exact hsteps⟩
theorem vx_callS (X : Stand p l e R s m args below meth c T locs cells slots) (hexec : p.tables.exec = Jvm.exec) {own : String} {index : Nat} {y : MethodName} {bytes : ByteArray} {maxL : Nat} {ret : Option FieldType}
    (hown : s.vm.findClass own = some m.cls) (hlink : (Cond.methodLink own index y).before args s = true) (hstat : (Cond.static y).before args s = true) (hinit : (Cond.initialized y.cls).before args s = true)
    (hcode : (Cond.code y bytes maxL ret).before args s = true) (hy : y.cls ≠ "java/lang/invoke/MethodHandle" ∧ y.cls ≠ "java/lang/invoke/VarHandle")
    {W9 : Nat} {Pre : Pt → Array Value → Prop} {Post : Pt → Array Value → Option Value → Pt → Prop} {PostX : Pt → Array Value → Addr → Pt → Prop} (hK : vx_Back l R p e below s args y 3 W9 Pre Post PostX)
    {g : JFrame} (hg : g.method = m) (hsize : g.locals.size = c.maxLocals) {argsL rest : List Value} (hlen : ∀ sig, parseMethodDescriptor y.desc = some sig → argsL.length = sig.parameters.length)
    (hstack : g.stack = argsL.reverse ++ rest) (hW : 2 * g.monitorRoom + (rest.map fun v => v.category).sum ≤ W9) (hdg : decode c.code g.pc = .ok (.invokestatic index, 3))
    (hpre : ∀ vm₁, s.WarmedH vm₁ → Pre ⟨T.setVm vm₁, locs, cells, slots⟩ argsL.toArray) :
    (∃ (v : Option Value) (vm₁ : Vm) (B : Pt), s.WarmedH vm₁ ∧ Stand p l e R s m args below meth c B.U B.locs B.cells B.slots ∧ Post ⟨T.setVm vm₁, locs, cells, slots⟩ argsL.toArray v B ∧
      ∀ target, Steps p.tables e below (B.U.setTop { g with pc := g.pc + 3, stack := v.toList ++ rest }) target → Steps p.tables e below (T.setTop g) target) ∨
    (∃ (q : Addr) (vm₁ : Vm) (B : Pt), s.WarmedH vm₁ ∧ Stand p l e R s m args below meth c B.U B.locs B.cells B.slots ∧ PostX ⟨T.setVm vm₁, locs, cells, slots⟩ argsL.toArray q B ∧
      Steps p.tables e below (T.setTop g) ((B.U.setTop { g with stack := rest }).pushFrame (.throwing q))) := by
  obtain ⟨mk, hnamed⟩ := Cond.code_named hcode
  obtain ⟨methM, cM, hmethM, -, -, -, -, -, -, hsigM⟩ := Cond.code_spec hnamed hcode
  have hstatic : methM.isStatic = true := Cond.static_spec hnamed hmethM hstat
  obtain ⟨kP, hkP, -⟩ := className_of_methodNamed hnamed
  have hinitP : kP.init = .initialized := Cond.initialized_spec (findClass_of_methodNamed hnamed) hkP hinit
  obtain ⟨vm₁, X₁, hstep₁⟩ := X.invokestatic hexec hown hlink hnamed hmethM hstatic hkP hinitP hy (g := g) hg (argsL := argsL) (rest := rest) (hlen _ hsigM) hstack hdg
  rcases hK m meth c ⟨T.setVm vm₁, locs, cells, slots⟩ { g with stack := rest } (.invokestatic index) mk argsL.toArray X₁ hg hsize hdg hW (X₁.named hnamed) (hpre vm₁ X₁.warmed) with ⟨v, B, X', hpost, hsteps⟩ | ⟨q, B, X', hpost, hsteps⟩
  · exact Or.inl ⟨v, vm₁, B, X₁.warmed, X', hpost, fun target h => hstep₁ _ fun acts => by rw [doInvoke_state]; exact hsteps.trans h⟩
  · exact Or.inr ⟨q, vm₁, B, X₁.warmed, X', hpost, hstep₁ _ fun acts => by rw [doInvoke_state]; exact hsteps⟩
end Calls
theorem vx_cls {s : State} {T : State} {vm₁ : Vm} {E : String} {k : ClassId} (hW : s.WarmedH vm₁) (h : (T.setVm vm₁).vm.findClass E = some k) : s.vm.findClass E = some k := by
  have h1 : vm₁.findClass E = some k := h
  rw [hW.alike.findClass] at h1
  exact h1
/-- the method's frame g, with q thrown over it -/
def vx_W (p : Program) (l : Launch) (e : Env) (R : Room) (s : State) (m : MethodId) (args : Array Value) (below : List Frame) (meth : Method) (c : Code) (H : Heap) (locs : List Loc) (cells slots : Nat) (Q : State → Prop) (g : JFrame) (q : Addr) : Prop :=
  ∀ T : State, T.heap = H → Stand p l e R s m args below meth c T locs cells slots → ∃ t, Steps p.tables e below ((T.setTop g).pushFrame (.throwing q)) t ∧ Q t
def vx_Run (p : Program) (l : Launch) (e : Env) (R : Room) (s : State) (m : MethodId) (args : Array Value) (below : List Frame) (meth : Method) (c : Code) (H : Heap) (locs : List Loc) (cells slots mc ms : Nat) (g : JFrame) (rest : List Value) (Qa : State → Outcome → State → Prop) (XC : String → State → State → Prop) (free : Addr → Prop) : Prop :=
  ∀ T : State, T.heap = H → Stand p l e R s m args below meth c T locs cells slots →
    (∃ (v : Option Value) (st₀ t T' : State) (L : List Loc), st₀.heap = H ∧ Stand p l e R s m args below meth c T' (locs ++ L) (cells + mc) (slots + ms) ∧ (∀ q ∈ L, free q.base) ∧ T'.heap = t.heap ∧ T'.vm = t.vm ∧ Qa st₀ (.returned v) t ∧
      Goes p e below T g T' { g with pc := g.pc + 3, stack := v.toList ++ rest }) ∨
    (∃ (q : Addr) (st₀ t T' : State) (L : List Loc) (E : String) (ce : Cell), st₀.heap = H ∧ Stand p l e R s m args below meth c T' (locs ++ L) (cells + mc) (slots + ms) ∧ (∀ z ∈ L, free z.base) ∧ T'.heap = t.heap ∧ T'.vm = t.vm ∧ XC E st₀ t ∧ t.heap[q]? = some ce ∧ ce.vm = .none ∧ s.vm.findClass E = some ce.cls ∧
      Steps p.tables e below (T.setTop g) ((T'.setTop { g with stack := rest }).pushFrame (.throwing q)))
def vx_X {S : Type} (px : S → Prop) (B : String → S → State → Prop) (A : Nat → Prop) : String → State → State → Prop := fun E st t => ∃ u : S, px u ∧ B E u t ∧ va_F A st t
section Runs
variable {p : Program} {l : Launch} {e : Env} {R : Room} {s : State} {m : MethodId} {args : Array Value} {below : List Frame} {meth : Method} {c : Code} {H : Heap} {locs : List Loc} {cells slots : Nat}
variable {y : MethodName} {bytes cc : ByteArray} {maxL nL mc ms n index : Nat} {ret : Option FieldType} {ws : List Cond} {rm : Room} {Pc : Array Value → State → Prop} {Qc : Array Value → State → Outcome → State → Prop} {XC : String → State → State → Prop} {free : Addr → Prop} {Ts : List Cond} {own C : String} {b : Addr} {As rest : List Value} {g : JFrame}
theorem vx_callBack (cb : CallB R s args own index y bytes maxL ret ws rm mc ms n) (hM : vx_Met l y ws rm Pc Qc XC mc ms free) (hbl : FrameBlind Pc) : vx_Back l R p e below s args y 3 8 (PreOf R mc ms Pc) (PostOf Qc mc ms free) (vx_Post XC mc ms free) := by
  obtain ⟨hrc, hrs, hfr, hlo, hws, hcw, -, hini, -⟩ := cb
  exact vx_back (bytes := bytes) (maxL := maxL) (ret := ret) hM hbl hrc hrs hfr hlo hws hcw (fun a' U hW => word_at hW (Or.inl (by first | rfl | simp [Cond.onTables, Cond.keeps, Cond.steady])) hini)
theorem vx_runV (S : CallFix p m c cc nL s args Ts own) (hM : vx_Met l y ws rm Pc Qc XC mc ms free) (cw : CallW R s args own C index y bytes maxL ret ws rm mc ms n) (hp : PreV s H C b Pc As)
    (hg : g.method = m) (hn : As.length = n) (hsize : g.locals.size = nL) (hstack : g.stack = As.reverse ++ .ref b :: rest) (hW : 2 * g.monitorRoom + (rest.map fun v => v.category).sum ≤ 8) (hdg : decode cc g.pc = .ok (.invokevirtual index, 3)) (hf : cells + mc ≤ R.cells ∧ slots + ms ≤ R.slots) :
    vx_Run p l e R s m args below meth c H locs cells slots mc ms g rest (Qc (Value.ref b :: As).toArray) XC free := by
  have hK : vx_Back l R p e below s args y 3 8 (PreOf R mc ms Pc) (PostOf Qc mc ms free) (vx_Post XC mc ms free) := vx_callBack cw.1 hM hp.1
  obtain ⟨⟨-, -, -, -, -, -, hcode, -, hy, hlen, hl⟩, hin, hse⟩ := cw
  obtain ⟨hx, hb, hml, ho, -⟩ := S
  obtain ⟨-, ⟨cellB, hcB, hoB, hclB⟩, hPc⟩ := hp
  intro T hT X
  rcases vx_callV X hx (C := C) (bytes := bytes) (maxL := maxL) (ret := ret) ho hl hin hse hcode hy hK (by rw [hT]; exact hcB) hoB hclB hg (hsize.trans hml.symm) (argsL := As) (rest := rest) (fun sig h => hn.trans (hlen sig h)) hstack hW (by rw [hb]; exact hdg)
    (fun vm₁ hW₁ => ⟨hf.1, hf.2, hPc (T.setVm vm₁) hT hW₁⟩) with ⟨v, vm₁, ⟨U', l2, c2, s2⟩, hW₁, X', ⟨g', mk, t, L, e1, e2, hq, h1, hL, h2, h3⟩, st⟩ | ⟨q, vm₁, ⟨U', l2, c2, s2⟩, hW₁, X', ⟨g', mk, t, L, E, ce, e1, e2, hq, hce, hcv, hcl, h1, hL, h2, h3⟩, st⟩
  · dsimp only [Pt.U, Pt.locs, Pt.cells, Pt.slots] at X' e1 e2 h1 h2 h3 st
    subst h1; subst h2; subst h3
    exact Or.inl ⟨v, (T.setVm vm₁).calling g' mk (Value.ref b :: As).toArray, t, U', L, hT, X', hL, e1, e2, hq, st⟩
  · dsimp only [Pt.U, Pt.locs, Pt.cells, Pt.slots] at X' e1 e2 h1 h2 h3 st hcl
    subst h1; subst h2; subst h3
    exact Or.inr ⟨q, (T.setVm vm₁).calling g' mk (Value.ref b :: As).toArray, t, U', L, E, ce, hT, X', hL, e1, e2, hq, hce, hcv, vx_cls hW₁ hcl, st⟩
theorem vx_runS (S : CallFix p m c cc nL s args Ts own) (hM : vx_Met l y ws rm Pc Qc XC mc ms free) (cw : CallB R s args own index y bytes maxL ret ws rm mc ms n ∧ (Cond.static y).before args s = true) (hp : PreS s H Pc As)
    (hg : g.method = m) (hn : As.length = n) (hsize : g.locals.size = nL) (hstack : g.stack = As.reverse ++ rest) (hW : 2 * g.monitorRoom + (rest.map fun v => v.category).sum ≤ 8) (hdg : decode cc g.pc = .ok (.invokestatic index, 3)) (hf : cells + mc ≤ R.cells ∧ slots + ms ≤ R.slots) :
    vx_Run p l e R s m args below meth c H locs cells slots mc ms g rest (Qc As.toArray) XC free := by
  have hK : vx_Back l R p e below s args y 3 8 (PreOf R mc ms Pc) (PostOf Qc mc ms free) (vx_Post XC mc ms free) := vx_callBack cw.1 hM hp.1
  obtain ⟨⟨-, -, -, -, -, -, hcode, hini, hy, hlen, hl⟩, hstt⟩ := cw
  obtain ⟨hx, hb, hml, ho, -⟩ := S
  intro T hT X
  rcases vx_callS X hx (bytes := bytes) (maxL := maxL) (ret := ret) ho hl hstt hini hcode hy hK hg (hsize.trans hml.symm) (argsL := As) (rest := rest) (fun sig h => hn.trans (hlen sig h)) hstack hW (by rw [hb]; exact hdg)
    (fun vm₁ hW₁ => ⟨hf.1, hf.2, hp.2 (T.setVm vm₁) hT hW₁⟩) with ⟨v, vm₁, ⟨U', l2, c2, s2⟩, hW₁, X', ⟨g', mk, t, L, e1, e2, hq, h1, hL, h2, h3⟩, st⟩ | ⟨q, vm₁, ⟨U', l2, c2, s2⟩, hW₁, X', ⟨g', mk, t, L, E, ce, e1, e2, hq, hce, hcv, hcl, h1, hL, h2, h3⟩, st⟩
  · dsimp only [Pt.U, Pt.locs, Pt.cells, Pt.slots] at X' e1 e2 h1 h2 h3 st
    subst h1; subst h2; subst h3
    exact Or.inl ⟨v, (T.setVm vm₁).calling g' mk As.toArray, t, U', L, hT, X', hL, e1, e2, hq, st⟩
  · dsimp only [Pt.U, Pt.locs, Pt.cells, Pt.slots] at X' e1 e2 h1 h2 h3 st hcl
    subst h1; subst h2; subst h3
    exact Or.inr ⟨q, (T.setVm vm₁).calling g' mk As.toArray, t, U', L, E, ce, hT, X', hL, e1, e2, hq, hce, hcv, vx_cls hW₁ hcl, st⟩
end Runs
section Rows
variable {p : Program} {l : Launch} {e : Env} {R : Room} {s : State} {m : MethodId} {args : Array Value} {below : List Frame} {meth : Method} {c : Code} {H : Heap} {locs : List Loc} {cells slots : Nat} {Q : State → Prop}
variable {mc ms : Nat} {free : Addr → Prop} {A0 A1 : Nat → Prop} {H0 : Heap} {a : Array Value} {pc : Nat} {ls : Array Slot} {st0 rest : List Value}
theorem vx_keep {st₀ t T' : State} {L : List Loc} (h0 : st₀.heap = H) (e1 : T'.heap = t.heap) (hS : va_S A0 H0 H locs) (hA : ∀ q, q < H.size → A1 q → A0 q) (hf : ∀ q, free q → A0 q) (hL : ∀ q ∈ L, free q.base) (hF : va_F A1 st₀ t) :
    H.size ≤ T'.heap.size ∧ (∀ q : Nat, q < H.size → ¬ A1 q → T'.heap[q]? = H[q]?) ∧ va_S A0 H0 T'.heap (locs ++ L) := by
  obtain ⟨hz, hk⟩ := hF
  rw [h0] at hz hk
  exact ⟨by rw [e1]; exact hz, fun q h1 h2 => by rw [e1]; exact hk q h1 h2,
    ⟨Nat.le_trans hS.1 (by rw [e1]; exact hz), fun q h1 h2 => by rw [e1, hk q (Nat.lt_of_lt_of_le h1 hS.1) (fun z => h2 (hA q (Nat.lt_of_lt_of_le h1 hS.1) z))]; exact hS.2.1 q h1 h2, fun q hq => by
      rcases List.mem_append.mp hq with h | h
      · exact hS.2.2 q h
      · exact hf _ (hL q h)⟩⟩
theorem vx_calli {S SX : Type} {post : Int32 → S → Prop} {px : SX → Prop} {B : S → State → Prop} {BX : String → SX → State → Prop} {AX : Nat → Prop} (hr : vx_Run p l e R s m args below meth c H locs cells slots mc ms (F0 m pc ls st0) rest (va_Qi post B A1 a) (vx_X px BX AX) free) (hS : va_S A0 H0 H locs) (hA : ∀ q, q < H.size → A1 q → A0 q) (hf : ∀ q, free q → A0 q) (hAX : ∀ q, q < H.size → AX q → A0 q)
    (kx : ∀ (E : String) (ce : Cell) (q9 : Addr) (u : SX) (t : State) (H1 : Heap) (locs1 : List Loc), t.heap = H1 → s.vm.Alike t.vm → px u → BX E u t → H.size ≤ H1.size → (∀ q : Nat, q < H.size → ¬ AX q → H1[q]? = H[q]?) → va_S A0 H0 H1 locs1 → H1[q9]? = some ce → ce.vm = .none → s.vm.findClass E = some ce.cls → vx_W p l e R s m args below meth c H1 locs1 (cells + mc) (slots + ms) Q (F0 m pc ls rest) q9)
    (kk : ∀ (r : Int32) (u : S) (t : State) (H1 : Heap) (locs1 : List Loc), t.heap = H1 → s.vm.Alike t.vm → post r u → B u t → H.size ≤ H1.size → (∀ q : Nat, q < H.size → ¬ A1 q → H1[q]? = H[q]?) → va_S A0 H0 H1 locs1 → W p l e R s m args below meth c H1 locs1 (cells + mc) (slots + ms) Q (F0 m (pc + 3) ls (.int r :: rest))) : W p l e R s m args below meth c H locs cells slots Q (F0 m pc ls st0) := by
  intro T hT X
  rcases hr T hT X with ⟨v, st₀, t, T', L, h0, X', hL, e1, e2, ⟨⟨r, u, hv, hp, hb⟩, hF⟩, st⟩ | ⟨q, st₀, t, T', L, E, ce, h0, X', hL, e1, e2, ⟨u, hp, hb, hF⟩, hce, hcv, hcl, st⟩
  · cases hv
    obtain ⟨k1, k2, k3⟩ := vx_keep h0 e1 hS hA hf hL hF
    obtain ⟨t2, a1, b1⟩ := kk r u t T'.heap (locs ++ L) e1.symm (by rw [← e2]; exact X'.warmed.alike) hp hb k1 k2 k3 T' rfl X'
    exact ⟨t2, st t2 a1, b1⟩
  · obtain ⟨k1, k2, k3⟩ := vx_keep h0 e1 hS hAX hf hL hF
    obtain ⟨t2, a1, b1⟩ := kx E ce q u t T'.heap (locs ++ L) e1.symm (by rw [← e2]; exact X'.warmed.alike) hp hb k1 k2 k3 (by rw [e1]; exact hce) hcv hcl T' rfl X'
    exact ⟨t2, st.trans a1, b1⟩
theorem vx_calll {S SX : Type} {post : Int64 → S → Prop} {px : SX → Prop} {B : S → State → Prop} {BX : String → SX → State → Prop} {AX : Nat → Prop} (hr : vx_Run p l e R s m args below meth c H locs cells slots mc ms (F0 m pc ls st0) rest (va_Ql post B A1 a) (vx_X px BX AX) free) (hS : va_S A0 H0 H locs) (hA : ∀ q, q < H.size → A1 q → A0 q) (hf : ∀ q, free q → A0 q) (hAX : ∀ q, q < H.size → AX q → A0 q)
    (kx : ∀ (E : String) (ce : Cell) (q9 : Addr) (u : SX) (t : State) (H1 : Heap) (locs1 : List Loc), t.heap = H1 → s.vm.Alike t.vm → px u → BX E u t → H.size ≤ H1.size → (∀ q : Nat, q < H.size → ¬ AX q → H1[q]? = H[q]?) → va_S A0 H0 H1 locs1 → H1[q9]? = some ce → ce.vm = .none → s.vm.findClass E = some ce.cls → vx_W p l e R s m args below meth c H1 locs1 (cells + mc) (slots + ms) Q (F0 m pc ls rest) q9)
    (kk : ∀ (r : Int64) (u : S) (t : State) (H1 : Heap) (locs1 : List Loc), t.heap = H1 → s.vm.Alike t.vm → post r u → B u t → H.size ≤ H1.size → (∀ q : Nat, q < H.size → ¬ A1 q → H1[q]? = H[q]?) → va_S A0 H0 H1 locs1 → W p l e R s m args below meth c H1 locs1 (cells + mc) (slots + ms) Q (F0 m (pc + 3) ls (.long r :: rest))) : W p l e R s m args below meth c H locs cells slots Q (F0 m pc ls st0) := by
  intro T hT X
  rcases hr T hT X with ⟨v, st₀, t, T', L, h0, X', hL, e1, e2, ⟨⟨r, u, hv, hp, hb⟩, hF⟩, st⟩ | ⟨q, st₀, t, T', L, E, ce, h0, X', hL, e1, e2, ⟨u, hp, hb, hF⟩, hce, hcv, hcl, st⟩
  · cases hv
    obtain ⟨k1, k2, k3⟩ := vx_keep h0 e1 hS hA hf hL hF
    obtain ⟨t2, a1, b1⟩ := kk r u t T'.heap (locs ++ L) e1.symm (by rw [← e2]; exact X'.warmed.alike) hp hb k1 k2 k3 T' rfl X'
    exact ⟨t2, st t2 a1, b1⟩
  · obtain ⟨k1, k2, k3⟩ := vx_keep h0 e1 hS hAX hf hL hF
    obtain ⟨t2, a1, b1⟩ := kx E ce q u t T'.heap (locs ++ L) e1.symm (by rw [← e2]; exact X'.warmed.alike) hp hb k1 k2 k3 (by rw [e1]; exact hce) hcv hcl T' rfl X'
    exact ⟨t2, st.trans a1, b1⟩
theorem vx_callf {S SX : Type} {post : UInt32 → S → Prop} {px : SX → Prop} {B : S → State → Prop} {BX : String → SX → State → Prop} {AX : Nat → Prop} (hr : vx_Run p l e R s m args below meth c H locs cells slots mc ms (F0 m pc ls st0) rest (va_Qf post B A1 a) (vx_X px BX AX) free) (hS : va_S A0 H0 H locs) (hA : ∀ q, q < H.size → A1 q → A0 q) (hf : ∀ q, free q → A0 q) (hAX : ∀ q, q < H.size → AX q → A0 q)
    (kx : ∀ (E : String) (ce : Cell) (q9 : Addr) (u : SX) (t : State) (H1 : Heap) (locs1 : List Loc), t.heap = H1 → s.vm.Alike t.vm → px u → BX E u t → H.size ≤ H1.size → (∀ q : Nat, q < H.size → ¬ AX q → H1[q]? = H[q]?) → va_S A0 H0 H1 locs1 → H1[q9]? = some ce → ce.vm = .none → s.vm.findClass E = some ce.cls → vx_W p l e R s m args below meth c H1 locs1 (cells + mc) (slots + ms) Q (F0 m pc ls rest) q9)
    (kk : ∀ (r : UInt32) (u : S) (t : State) (H1 : Heap) (locs1 : List Loc), t.heap = H1 → s.vm.Alike t.vm → post r u → B u t → H.size ≤ H1.size → (∀ q : Nat, q < H.size → ¬ A1 q → H1[q]? = H[q]?) → va_S A0 H0 H1 locs1 → W p l e R s m args below meth c H1 locs1 (cells + mc) (slots + ms) Q (F0 m (pc + 3) ls (.float r :: rest))) : W p l e R s m args below meth c H locs cells slots Q (F0 m pc ls st0) := by
  intro T hT X
  rcases hr T hT X with ⟨v, st₀, t, T', L, h0, X', hL, e1, e2, ⟨⟨r, u, hv, hp, hb⟩, hF⟩, st⟩ | ⟨q, st₀, t, T', L, E, ce, h0, X', hL, e1, e2, ⟨u, hp, hb, hF⟩, hce, hcv, hcl, st⟩
  · cases hv
    obtain ⟨k1, k2, k3⟩ := vx_keep h0 e1 hS hA hf hL hF
    obtain ⟨t2, a1, b1⟩ := kk r u t T'.heap (locs ++ L) e1.symm (by rw [← e2]; exact X'.warmed.alike) hp hb k1 k2 k3 T' rfl X'
    exact ⟨t2, st t2 a1, b1⟩
  · obtain ⟨k1, k2, k3⟩ := vx_keep h0 e1 hS hAX hf hL hF
    obtain ⟨t2, a1, b1⟩ := kx E ce q u t T'.heap (locs ++ L) e1.symm (by rw [← e2]; exact X'.warmed.alike) hp hb k1 k2 k3 (by rw [e1]; exact hce) hcv hcl T' rfl X'
    exact ⟨t2, st.trans a1, b1⟩
theorem vx_calld {S SX : Type} {post : UInt64 → S → Prop} {px : SX → Prop} {B : S → State → Prop} {BX : String → SX → State → Prop} {AX : Nat → Prop} (hr : vx_Run p l e R s m args below meth c H locs cells slots mc ms (F0 m pc ls st0) rest (va_Qd post B A1 a) (vx_X px BX AX) free) (hS : va_S A0 H0 H locs) (hA : ∀ q, q < H.size → A1 q → A0 q) (hf : ∀ q, free q → A0 q) (hAX : ∀ q, q < H.size → AX q → A0 q)
    (kx : ∀ (E : String) (ce : Cell) (q9 : Addr) (u : SX) (t : State) (H1 : Heap) (locs1 : List Loc), t.heap = H1 → s.vm.Alike t.vm → px u → BX E u t → H.size ≤ H1.size → (∀ q : Nat, q < H.size → ¬ AX q → H1[q]? = H[q]?) → va_S A0 H0 H1 locs1 → H1[q9]? = some ce → ce.vm = .none → s.vm.findClass E = some ce.cls → vx_W p l e R s m args below meth c H1 locs1 (cells + mc) (slots + ms) Q (F0 m pc ls rest) q9)
    (kk : ∀ (r : UInt64) (u : S) (t : State) (H1 : Heap) (locs1 : List Loc), t.heap = H1 → s.vm.Alike t.vm → post r u → B u t → H.size ≤ H1.size → (∀ q : Nat, q < H.size → ¬ A1 q → H1[q]? = H[q]?) → va_S A0 H0 H1 locs1 → W p l e R s m args below meth c H1 locs1 (cells + mc) (slots + ms) Q (F0 m (pc + 3) ls (.double r :: rest))) : W p l e R s m args below meth c H locs cells slots Q (F0 m pc ls st0) := by
  intro T hT X
  rcases hr T hT X with ⟨v, st₀, t, T', L, h0, X', hL, e1, e2, ⟨⟨r, u, hv, hp, hb⟩, hF⟩, st⟩ | ⟨q, st₀, t, T', L, E, ce, h0, X', hL, e1, e2, ⟨u, hp, hb, hF⟩, hce, hcv, hcl, st⟩
  · cases hv
    obtain ⟨k1, k2, k3⟩ := vx_keep h0 e1 hS hA hf hL hF
    obtain ⟨t2, a1, b1⟩ := kk r u t T'.heap (locs ++ L) e1.symm (by rw [← e2]; exact X'.warmed.alike) hp hb k1 k2 k3 T' rfl X'
    exact ⟨t2, st t2 a1, b1⟩
  · obtain ⟨k1, k2, k3⟩ := vx_keep h0 e1 hS hAX hf hL hF
    obtain ⟨t2, a1, b1⟩ := kx E ce q u t T'.heap (locs ++ L) e1.symm (by rw [← e2]; exact X'.warmed.alike) hp hb k1 k2 k3 (by rw [e1]; exact hce) hcv hcl T' rfl X'
    exact ⟨t2, st.trans a1, b1⟩
theorem vx_callv {S SX : Type} {post : S → Prop} {px : SX → Prop} {B : S → State → Prop} {BX : String → SX → State → Prop} {AX : Nat → Prop} (hr : vx_Run p l e R s m args below meth c H locs cells slots mc ms (F0 m pc ls st0) rest (va_Qv post B A1 a) (vx_X px BX AX) free) (hS : va_S A0 H0 H locs) (hA : ∀ q, q < H.size → A1 q → A0 q) (hf : ∀ q, free q → A0 q) (hAX : ∀ q, q < H.size → AX q → A0 q)
    (kx : ∀ (E : String) (ce : Cell) (q9 : Addr) (u : SX) (t : State) (H1 : Heap) (locs1 : List Loc), t.heap = H1 → s.vm.Alike t.vm → px u → BX E u t → H.size ≤ H1.size → (∀ q : Nat, q < H.size → ¬ AX q → H1[q]? = H[q]?) → va_S A0 H0 H1 locs1 → H1[q9]? = some ce → ce.vm = .none → s.vm.findClass E = some ce.cls → vx_W p l e R s m args below meth c H1 locs1 (cells + mc) (slots + ms) Q (F0 m pc ls rest) q9)
    (kk : ∀ (u : S) (t : State) (H1 : Heap) (locs1 : List Loc), t.heap = H1 → s.vm.Alike t.vm → post u → B u t → H.size ≤ H1.size → (∀ q : Nat, q < H.size → ¬ A1 q → H1[q]? = H[q]?) → va_S A0 H0 H1 locs1 → W p l e R s m args below meth c H1 locs1 (cells + mc) (slots + ms) Q (F0 m (pc + 3) ls (rest))) : W p l e R s m args below meth c H locs cells slots Q (F0 m pc ls st0) := by
  intro T hT X
  rcases hr T hT X with ⟨v, st₀, t, T', L, h0, X', hL, e1, e2, ⟨⟨u, hv, hp, hb⟩, hF⟩, st⟩ | ⟨q, st₀, t, T', L, E, ce, h0, X', hL, e1, e2, ⟨u, hp, hb, hF⟩, hce, hcv, hcl, st⟩
  · cases hv
    obtain ⟨k1, k2, k3⟩ := vx_keep h0 e1 hS hA hf hL hF
    obtain ⟨t2, a1, b1⟩ := kk u t T'.heap (locs ++ L) e1.symm (by rw [← e2]; exact X'.warmed.alike) hp hb k1 k2 k3 T' rfl X'
    exact ⟨t2, st t2 a1, b1⟩
  · obtain ⟨k1, k2, k3⟩ := vx_keep h0 e1 hS hAX hf hL hF
    obtain ⟨t2, a1, b1⟩ := kx E ce q u t T'.heap (locs ++ L) e1.symm (by rw [← e2]; exact X'.warmed.alike) hp hb k1 k2 k3 (by rw [e1]; exact hce) hcv hcl T' rfl X'
    exact ⟨t2, st.trans a1, b1⟩
/-- caught by the row x of this method's table; the rows ahead don't take it -/
theorem vx_catch {own name : String} {E : String} {ce : Cell} {q : Addr} (hown : s.vm.findClass own = some m.cls) (pre : List ExceptionTableEntry) (x : ExceptionTableEntry) (suf : List ExceptionTableEntry) (hsplit : c.exceptionTable.toList = pre ++ x :: suf)
    (hpass : ∀ z ∈ pre, covers z pc = false ∨ (z.catchType ≠ 0 ∧ ∃ nm : String, (Cond.classLink own z.catchType nm).before args s = true ∧ va_Nc E nm s)) (hx : covers x pc = true) (h0 : x.catchType ≠ 0)
    (hlink : (Cond.classLink own x.catchType name).before args s = true) (hcast : (Cond.castable E name).before args s = true) (hcell : H[q]? = some ce) (hv : ce.vm = .none) (hcl : s.vm.findClass E = some ce.cls)
    (kk : W p l e R s m args below meth c H locs cells slots Q (F0 m x.handlerPc ls [.ref q])) : vx_W p l e R s m args below meth c H locs cells slots Q (F0 m pc ls rest) q := by
  intro T hT X
  have hpl : e.platform.magicAccessors = ({} : Platform).magicAccessors := by rw [X.admits.platform]
  obtain ⟨c3, c4, hc3, hc4, hasg⟩ := Cond.castable_spec hcast
  cases Option.some.inj (hc3.symm.trans hcl)
  obtain ⟨c5, hc5, hcl5⟩ := Cond.classLink_spec hown hlink e.platform hpl
  cases Option.some.inj (hc4.symm.trans hc5)
  obtain ⟨vm', X', st⟩ := X.thenCaughtThrough q (g := F0 m pc ls rest) rfl (Steps.refl _) (by rw [hT]; exact hcell) (by rw [hv]; rfl) (by obtain ⟨k9, h9, -⟩ := Vm.findClass_spec hcl; exact ⟨k9, h9⟩) pre x suf hsplit
    (fun z hz => by
      rcases hpass z hz with h | ⟨hz0, nm, hl1, hn1⟩
      · exact Or.inl h
      · obtain ⟨c6, hc6, hcl6⟩ := Cond.classLink_spec hown hl1 e.platform hpl
        obtain ⟨a8, b8, h1, h2, h3⟩ := hn1
        cases Option.some.inj (h1.symm.trans hcl)
        cases Option.some.inj (h2.symm.trans hc6)
        exact Or.inr ⟨hz0, _, hcl6, h3⟩) hx (Or.inr ⟨h0, c4, hcl5, hasg⟩)
  obtain ⟨t, a1, b1⟩ := kk (T.setVm vm') hT X'
  exact ⟨t, st.trans a1, b1⟩
end Rows
section Ends
variable {p : Program} {l : Launch} {e : Env} {R : Room} {s : State} {m : MethodId} {args : Array Value} {below : List Frame} {meth : Method} {c : Code} {H : Heap} {locs : List Loc} {cells slots : Nat} {Q : State → Prop}
variable {mc ms : Nat} {free : Addr → Prop} {A0 A1 : Nat → Prop} {H0 : Heap} {a : Array Value} {ls : Array Slot} {st0 rest : List Value}
variable {Qc : Array Value → State → Outcome → State → Prop} {XC : String → State → State → Prop}
/-- what a body that may throw owes at its end -/
def vx_MQ (below : List Frame) (Qc : Array Value → State → Outcome → State → Prop) (XC : String → State → State → Prop) (a : Array Value) (s : State) (mc ms : Nat) (free : Addr → Prop) : State → Prop := fun t =>
  ∃ o, t.status = .running ∧ Ended t below o ∧ vx_Q Qc XC mc ms free a s o t
theorem vx_ret {g : JFrame} {mc ms : Nat} (k : W p l e R s m args below meth c H locs cells slots (MQ below Qc args s mc ms free) g) : W p l e R s m args below meth c H locs cells slots (vx_MQ below Qc XC args s mc ms free) g := by
  intro T hT X
  obtain ⟨t, a1, o, b1, b2, b3, b4⟩ := k T hT X
  exact ⟨t, a1, o, b1, b2, Or.inl ⟨b3, b4⟩⟩
/-- not caught here: it goes on to the caller -/
theorem vx_widen {g : JFrame} {q : Addr} {k n : Nat} (h1 : cells ≤ k) (h2 : slots ≤ n) (kk : vx_W p l e R s m args below meth c H locs k n Q g q) : vx_W p l e R s m args below meth c H locs cells slots Q g q := fun T hT X => kk T hT (stand_widen X h1 h2)
theorem vx_out {pc : Nat} {E : String} {ce : Cell} {q : Addr} {mc ms : Nat} (hout : ∀ x ∈ c.exceptionTable.toList, covers x pc = false) (hlocks : meth.locks = false) (hcell : H[q]? = some ce) (hv : ce.vm = .none) (hcl : s.vm.findClass E = some ce.cls)
    (hx : ∀ t : State, t.heap = H → s.vm.Alike t.vm → XC E s t) (hf : ∀ z ∈ locs, free z.base) (hc : cells ≤ mc) (hs : slots ≤ ms) :
    vx_W p l e R s m args below meth c H locs cells slots (vx_MQ below Qc XC args s mc ms free) (F0 m pc ls rest) q := by
  intro T hT X
  obtain ⟨st1, hrun, hend, hW, hsm⟩ := X.leaveThrown q (g := F0 m pc ls rest) rfl rfl rfl hout hlocks
  have hcell9 : (T.setFrames (.throwing q :: below)).heap[q]? = some ce := by
    show T.heap[q]? = some ce
    rw [hT]; exact hcell
  exact ⟨_, st1, .threw q, hrun, hend, Or.inr ⟨q, rfl, E, ce, locs, hx _ hT hW.alike, hcell9, hv, hcl, hW, hsm.mono hc hs, hf⟩⟩
theorem vx_frame {U : State} {k n : Nat} (h : s.sameButNew ({ U with vm := s.vm } : State) locs k n) : s.heap.size ≤ U.heap.size ∧ ∀ q : Nat, q < s.heap.size → (∀ z ∈ locs, z.base ≠ q) → U.heap[q]? = s.heap[q]? := by
  obtain ⟨-, h2, -, -, -, h6⟩ := h
  refine ⟨h2, fun q hq hz => ?_⟩
  obtain ⟨c9, e1, e2, e3, e4⟩ := h6 q _ (Array.getElem?_eq_getElem hq)
  have hs : c9.slots = (s.heap[q]).slots := Array.ext_getElem? fun i => e4 i fun hm => hz _ hm rfl
  have h9 : c9 = s.heap[q] := by
    rw [hs] at e2
    exact e2
  have e5 : U.heap[q]? = some c9 := e1
  rw [e5, h9, Array.getElem?_eq_getElem hq]
/-- the words of a throw but the four that speak of the heap -/
def vx_no (w : Cond) : Bool := decide (w ≠ .isRef (.static Bundle.tN "UNASSIGNED_STACK" Bundle.steD)) && decide (w ≠ .isRef (.static Bundle.tN "SUPPRESSED_SENTINEL" Bundle.listD)) && decide (w ≠ .laysStatic Bundle.tN "UNASSIGNED_STACK" Bundle.steD) && decide (w ≠ .laysStatic Bundle.tN "SUPPRESSED_SENTINEL" Bundle.listD)
def vx_at0 (own : String) (ic : Nat) (X : String) (names : List String) : List Cond := (Bundle.ownAtoms0 own ic X names).filter vx_no
def vx_atS (own : String) (ic : Nat) (X : String) (names : List String) : List Cond := (Bundle.ownAtoms own ic X names).filter vx_no
/-- a word that the tables alone decide, or a good one -/
def vx_ot (w : Cond) : Bool := w.onTables || goodWord w
theorem vx_ot_at {args a' : Array Value} {s U : State} {w : Cond} (hW : s.WarmedH U.vm) (hvm : s.vm = U.vm) (hg : vx_ot w = true) (h : w.before args s = true) : w.before a' U = true := by
  simp only [vx_ot, Bool.or_eq_true] at hg
  rcases hg with hg | hg
  · exact va_tabs hg hvm h
  · exact word_at hW (good_of_word hg) h
/-- a list's words: the good ones out of the method's own list, the others by premises of their own -/
theorem vx_hat {args : Array Value} {s : State} {L B : List Cond} (h1 : ∀ w ∈ L.filter goodWord, w.before args s = true) (h2 : ∀ w ∈ L.filter (fun w => !goodWord w), w ∈ B) (h3 : ∀ w ∈ B, w.before args s = true) : ∀ w ∈ L, w.before args s = true := by
  intro w hw
  by_cases g : goodWord w = true
  · exact h1 w (List.mem_filter.mpr ⟨hw, g⟩)
  · refine h3 w (h2 w (List.mem_filter.mpr ⟨hw, ?_⟩))
    show (!goodWord w) = true
    cases hgw : goodWord w
    · rfl
    · exact absurd hgw g
theorem vx_c {args : Array Value} {s : State} {w : Cond} {B : List Cond} (h : w.before args s = true) (t : ∀ w ∈ B, w.before args s = true) : ∀ w' ∈ w :: B, w'.before args s = true := fun w' h' => (List.mem_cons.mp h').elim (fun e => by rw [e]; exact h) (t w')
theorem vx_n {args : Array Value} {s : State} : ∀ w ∈ ([] : List Cond), w.before args s = true := fun _ h => nomatch h
theorem vx_own {args : Array Value} {s : State} {L : List Cond} (h1 : ∀ w ∈ L.filter vx_no, w.before args s = true)
    (hU : (Cond.isRef (.static Bundle.tN "UNASSIGNED_STACK" Bundle.steD)).before args s = true) (hN : (Cond.isRef (.static Bundle.tN "SUPPRESSED_SENTINEL" Bundle.listD)).before args s = true)
    (lU : (Cond.laysStatic Bundle.tN "UNASSIGNED_STACK" Bundle.steD).before args s = true) (lN : (Cond.laysStatic Bundle.tN "SUPPRESSED_SENTINEL" Bundle.listD).before args s = true) : ∀ w ∈ L, w.before args s = true := by
  intro w hw
  by_cases e1 : w = .isRef (.static Bundle.tN "UNASSIGNED_STACK" Bundle.steD)
  · rw [e1]; exact hU
  · by_cases e2 : w = .isRef (.static Bundle.tN "SUPPRESSED_SENTINEL" Bundle.listD)
    · rw [e2]; exact hN
    · by_cases e3 : w = .laysStatic Bundle.tN "UNASSIGNED_STACK" Bundle.steD
      · rw [e3]; exact lU
      · by_cases e4 : w = .laysStatic Bundle.tN "SUPPRESSED_SENTINEL" Bundle.listD
        · rw [e4]; exact lN
        · exact h1 w (List.mem_filter.mpr ⟨hw, by unfold vx_no; rw [decide_eq_true e1, decide_eq_true e2, decide_eq_true e3, decide_eq_true e4]; rfl⟩)
/-- where a static field lies, its class's statics cell in H -/
def vx_L (C n d : String) (A : Nat → Prop) (U : State) (H : Heap) : Prop := ∃ (c : ClassId) (k : Class) (i : Nat) (f : Field) (a : Nat) (cell : Cell), U.vm.findClass C = some c ∧ U.fieldFound? C n d = some (c, k, i, f) ∧ f.isStatic = true ∧ k.statics = some a ∧ H[a]? = some cell ∧ cell.vm.isStatics = true ∧ cell.cls = c ∧ f.slot < cell.slots.size ∧ k.staticTypes[f.slot]? = some f.type ∧ ¬ A a
theorem vx_L.moved {C n d : String} {A : Nat → Prop} {u U : State} {H : Heap} (hvm : u.vm.Alike U.vm) (h : vx_L C n d A u H) : vx_L C n d A U H := by
  obtain ⟨c, k, i, f, a, cell, h1, h2, h3, h4, h5, h6, h7, h8, h9, h10⟩ := h
  obtain ⟨k', hi', he⟩ := State.fieldFound?_setVm hvm h2
  exact ⟨c, k', i, f, a, cell, by rw [hvm.findClass]; exact h1, hi', h3, by rw [he]; exact h4, h5, h6, h7, h8, by rw [he]; exact h9, h10⟩
theorem vx_L.kept {C n d : String} {A : Nat → Prop} {U : State} {H H1 : Heap} (h : vx_L C n d A U H) (hq : ∀ a : Nat, a < H.size → ¬ A a → H1[a]? = H[a]?) : vx_L C n d A U H1 := by
  obtain ⟨c, k, i, f, a, cell, h1, h2, h3, h4, h5, h6, h7, h8, h9, h10⟩ := h
  exact ⟨c, k, i, f, a, cell, h1, h2, h3, h4, by rw [hq a (Array.getElem?_eq_some_iff.mp h5).1 h10]; exact h5, h6, h7, h8, h9, h10⟩
theorem vx_L.narrow {C n d : String} {A B : Nat → Prop} {U : State} {H : Heap} (h : vx_L C n d A U H) (hAB : ∀ q, B q → A q) : vx_L C n d B U H := by
  obtain ⟨c, k, i, f, a, cell, h1, h2, h3, h4, h5, h6, h7, h8, h9, h10⟩ := h
  exact ⟨c, k, i, f, a, cell, h1, h2, h3, h4, h5, h6, h7, h8, h9, fun z => h10 (hAB _ z)⟩
theorem vx_L.word {C n d : String} {A : Nat → Prop} {s : State} {args : Array Value} (h : vx_L C n d A s s.heap) : (Cond.laysStatic C n d).before args s = true := by
  obtain ⟨c, k, i, f, a, cell, h1, h2, h3, h4, h5, h6, h7, h8, h9, -⟩ := h
  show (Cond.laysStatic C n d).holds args s none s [] = true
  exact Cond.laysStatic_of h1 h2 h3 h4 h5 h6 h7 h8 h9
/-- .. and what it holds: null or some reference -/
def vx_Zq (C n d : String) (A : Nat → Prop) (U : State) (H : Heap) : Prop := va_Zq C n d A U H ∧ vx_L C n d A U H
theorem vx_Zq.moved {C n d : String} {A : Nat → Prop} {u U : State} {H : Heap} (hvm : u.vm.Alike U.vm) (h : vx_Zq C n d A u H) : vx_Zq C n d A U H := ⟨va_Zq.moved hvm h.1, vx_L.moved hvm h.2⟩
theorem vx_Zq.kept {C n d : String} {A : Nat → Prop} {U : State} {H H1 : Heap} (h : vx_Zq C n d A U H) (hq : ∀ a : Nat, a < H.size → ¬ A a → H1[a]? = H[a]?) : vx_Zq C n d A U H1 := ⟨va_Zq.kept h.1 hq, vx_L.kept h.2 hq⟩
theorem vx_Zq.narrow {C n d : String} {A B : Nat → Prop} {U : State} {H : Heap} (h : vx_Zq C n d A U H) (hAB : ∀ q, B q → A q) : vx_Zq C n d B U H := ⟨va_Zq.narrow h.1 hAB, vx_L.narrow h.2 hAB⟩
theorem vx_Zqof {args : Array Value} {s : State} {C n d : String} {A : Nat → Prop} (hl : (Cond.laysStatic C n d).before args s = true) (hini : (Cond.initialized C).before args s = true) (h : (Cond.isRef (.static C n d)).before args s = true) (hA : ∀ a : Nat, a < s.heap.size → ¬ A a) : vx_Zq C n d A s s.heap := by
  refine ⟨va_Zqof hl hini h hA, ?_⟩
  obtain ⟨c, k, i, f, a, cell, h1, h2, h3, h4, h5, h6, h7, h8, h9⟩ := Cond.laysStatic_spec hl
  exact ⟨c, k, i, f, a, cell, h1, h2, h3, h4, h5, h6, h7, h8, h9, hA a (Array.getElem?_eq_some_iff.mp h5).1⟩
theorem vx_isRef {C n d : String} {v : Value} {A : Nat → Prop} {s : State} {args : Array Value} (h : va_Z C n d v A s s.heap) (hv : v.isRef = true) : (Cond.isRef (.static C n d)).before args s = true := by
  obtain ⟨cf, kf, fi, f, a, cell, h1, h2, h3, h4, h5, h6, h7, -⟩ := h
  have he : (Term.static C n d).eval args s none [] s = some v := by
    simp [Term.eval, State.fieldNamed?, h1, h2, h4, h5, h6, h7]
  simp only [Cond.before, Cond.holds, Cond.value, he]
  cases v <;> simp_all [Value.isRef]
theorem vx_isRefq {C n d : String} {A : Nat → Prop} {s : State} {args : Array Value} (h : va_Zq C n d A s s.heap) : (Cond.isRef (.static C n d)).before args s = true := by
  rcases h with h | ⟨t, h⟩
  · exact vx_isRef h rfl
  · exact vx_isRef h rfl
/-- the same frame, seen from here: as if the method were called anew in this heap -/
theorem vx_rebase {T : State} (X : Stand p l e R s m args below meth c T locs cells slots) {R' : Room} (hf : R'.frames ≤ R.frames) (hl : R'.locals ≤ R.locals) (hc : cells + R'.cells ≤ R.cells) (hs : slots + R'.slots ≤ R.slots) :
    Stand p l e R' ((T.setVm s.vm).setFrames (.invoking m args :: below)) m args below meth c T [] 0 0 := by
  have htop : (T.setVm s.vm).topJava?.isSome := X.here.top
  have hF : ((T.setVm s.vm).setFrames (.invoking m args :: below)).frames = .invoking m args :: below := State.frames_setFrames _ (State.cur_lt_of_top htop)
  obtain ⟨g₀, hg0⟩ := Option.isSome_iff_exists.mp htop
  obtain ⟨r, hr⟩ := State.topJava?_eq_some.mp hg0
  have hl9 : e.platform.stackLimits (T.setVm s.vm).me = e.platform.stackLimits s.me := X.limits
  have hb9 : (T.setVm s.vm).me.stackBytes = s.me.stackBytes := X.bytes
  refine ⟨X.admits, X.cas, X.clock, hF, ?_, X.hears, X.method, X.code, X.here, X.tail, X.warmed, ?_, ?_, ?_⟩
  · have h := X.room
    have hU : ((T.setVm s.vm).setFrames (.invoking m args :: below)).localsInUse = s.localsInUse := by
      rw [State.localsInUse_invoking hF (meth := meth) (c := c) X.method X.code, State.localsInUse_invoking X.frames X.method X.code]
    simp only [State.hasRoom, Bool.and_eq_true, decide_eq_true_eq] at h ⊢
    obtain ⟨⟨⟨⟨h1, h2, h3, h4, h5, h6⟩, h7⟩, h8⟩, h9⟩ := h
    rw [X.frames, List.length_cons] at h2 h3
    have q1 := X.heapSize
    have q2 := X.used
    simp only [hF, hU, List.length_cons, State.stackLimits_setFrames, State.stackBytes_setFrames, hl9, hb9]
    refine ⟨⟨⟨⟨by omega, by omega, by omega, by omega, by omega, h6⟩, ?_⟩, ?_⟩, X.book⟩
    · show T.heap.size + R'.cells ≤ e.platform.maxCells
      omega
    · show T.slotsUsed + R'.slots ≤ e.platform.maxSlots
      omega
  · rw [State.stackLimits_setFrames]; rfl
  · rw [State.stackBytes_setFrames]; rfl
  · refine ⟨?_, Nat.le_refl _, Nat.le_refl _, ?_, ?_, fun a c9 h9 => ⟨c9, h9, rfl, rfl, fun _ _ => rfl⟩⟩
    · obtain ⟨t, ht, -⟩ := State.frames_cons hr
      show T.setVm s.vm = { ((T.setVm s.vm).setFrames (.invoking m args :: below)).setFrames (T.setVm s.vm).frames with heap := T.heap, slotsUsed := T.slotsUsed }
      rw [State.setFrames_setFrames, State.setFrames_self ht]
      rfl
    · show T.slotsUsed = T.slotsUsed + ((T.heap.toList.drop T.heap.size).map (·.slots.size)).sum
      rw [List.drop_eq_nil_of_le (Nat.le_of_eq Array.length_toList)]
      rfl
    · show ((T.heap.toList.drop T.heap.size).map (·.slots.size)).sum ≤ 0
      rw [List.drop_eq_nil_of_le (Nat.le_of_eq Array.length_toList)]
      exact Nat.le_refl _
/-- 'throw new E()': new; dup; invokespecial; athrow -/
theorem vx_throw0 {cc : ByteArray} {pc : Nat} (hexec : p.tables.exec = Jvm.exec) (hb : c.code = cc) (hl : l.stackTraces = false) {own cls : String} {names : List String} {ik ic mc ms : Nat} {A : Nat → Prop}
    (hown : s.vm.findClass own = some m.cls) (hcls : Bundle.fit cls = true) (hnames : ∀ n ∈ names, Bundle.fit n = true)
    (hk : (Cond.classLink own ik cls).before args s = true) (hini : (Cond.initialized cls).before args s = true) (hat : ∀ w ∈ vx_at0 own ic cls names, w.before args s = true)
    (hgood : ∀ w ∈ Cond.classLink own ik cls :: Cond.initialized cls :: vx_at0 own ic cls names, vx_ot w = true)
    (hU : vx_Zq Bundle.tN "UNASSIGNED_STACK" Bundle.steD A s s.heap) (hN : vx_Zq Bundle.tN "SUPPRESSED_SENTINEL" Bundle.listD A s s.heap) (hS : va_S A s.heap H locs) (hsize : ls.size = c.maxLocals)
    (d0 : decode cc pc = .ok (.new ik, 3)) (d3 : decode cc (pc + 3) = .ok (.dup, 1)) (d4 : decode cc (pc + 4) = .ok (.invokespecial ic, 3)) (d7 : decode cc (pc + 7) = .ok (.athrow, 1))
    (hout : ∀ x ∈ c.exceptionTable.toList, covers x (pc + 7) = false)
    (hRframes : names.length + 3 < R.frames) (hRlocals : (rest.map fun v => v.category).sum + (13 * (names.length + 1) + 42) ≤ R.locals) (hRcells : cells + 1 ≤ R.cells) (hRslots : slots + 6 ≤ R.slots) (hlocks : meth.locks = false)
    (hx : ∀ t : State, s.vm.Alike t.vm → H.size ≤ t.heap.size → (∀ q : Nat, q < H.size → t.heap[q]? = H[q]?) → XC cls s t)
    (hf : ∀ z ∈ locs, free z.base) (hc : cells + 1 ≤ mc) (hs : slots + 6 ≤ ms) :
    W p l e R s m args below meth c H locs cells slots (vx_MQ below Qc XC args s mc ms free) (F0 m pc ls rest) := by
  intro T hT X
  have htr : e.platform.stackTraces = false := (show e.platform.stackTraces = l.stackTraces by rw [X.admits.platform]).trans hl
  have Y := vx_rebase X (R' := { frames := R.frames, locals := R.locals, cells := 1, slots := 6 }) (Nat.le_refl _) (Nat.le_refl _) hRcells hRslots
  obtain ⟨s', hA⟩ : ∃ z, z = (T.setVm s.vm).setFrames (.invoking m args :: below) := ⟨_, rfl⟩
  rw [← hA] at Y
  have hvm : s'.vm = s.vm := by rw [hA]; rfl
  have hhp : s'.heap = H := by rw [hA]; exact hT
  have hW0 : s.WarmedH s'.vm := by rw [hvm]; exact State.WarmedH.refl s
  have hat' : ∀ w ∈ vx_at0 own ic cls names, w.before args s' = true := fun w hw => vx_ot_at hW0 hvm.symm (hgood w (List.mem_cons_of_mem _ (List.mem_cons_of_mem _ hw))) (hat w hw)
  have hk' : (Cond.classLink own ik cls).before args s' = true := vx_ot_at hW0 hvm.symm (hgood _ List.mem_cons_self) hk
  have hini' : (Cond.initialized cls).before args s' = true := vx_ot_at hW0 hvm.symm (hgood _ (List.mem_cons_of_mem _ List.mem_cons_self)) hini
  have hU' : vx_Zq Bundle.tN "UNASSIGNED_STACK" Bundle.steD A s' s'.heap := by rw [hhp]; exact vx_Zq.moved hW0.alike (hU.kept hS.2.1)
  have hN' : vx_Zq Bundle.tN "SUPPRESSED_SENTINEL" Bundle.listD A s' s'.heap := by rw [hhp]; exact vx_Zq.moved hW0.alike (hN.kept hS.2.1)
  have h : ∀ w ∈ Bundle.ownAtoms0 own ic cls names, w.before args s' = true := vx_own hat' (vx_isRefq hU'.1) (vx_isRefq hN'.1) hU'.2.word hN'.2.word
  have hown' : s'.vm.findClass own = some m.cls := by rw [hvm]; exact hown
  have hins : (Cond.instantiable cls 6).before args s' = true := h _ (by simp [Bundle.ownAtoms0])
  obtain ⟨vm₁, cX, kX, hfX, hkX, -, -, X₁, st1⟩ := Y.newCold hexec (own := own) (C := cls) (index := ik) (n := 6) hown' hk' hins hini'
    (g := F0 m pc ls rest) rfl (by rw [hb]; exact d0) (Nat.le_refl _) (Nat.le_refl _)
  generalize hT1 : (T.setVm vm₁).pushCell { cls := cX, slots := kX.instanceTypes.map defaultValue, vm := .none } = T1 at X₁ st1
  have hcat : (Value.ref T.heap.size).category = 1 := rfl
  have hcellA : T1.heap[T.heap.size]? = some (freshCell cX kX) := by rw [← hT1]; exact State.heap_pushCell_size _ _
  have d3' : decode c.code (pc + 3) = .ok (.dup, 1) := by rw [hb]; exact d3
  obtain ⟨U, hsteps, hrun, hend, hW, hsame, ce, hce, hO⟩ := X₁.ctorThrow0 hexec htr (own := own) (cls := cls) (names := names) (ic := ic) hown' hcls hnames h (fun x hx => nomatch hx) hfX hkX hcellA (by rw [hhp, hT]; exact Nat.le_refl _)
    (g := { method := m, pc := pc + 4, locals := ls, stack := .ref T.heap.size :: .ref T.heap.size :: rest, locked := none }) rfl hsize rfl rfl (rest := rest) rfl
    (by rw [hb]; exact d4) (by rw [hb]; exact d7) hout hRframes (by simp only [List.map_cons, List.sum_cons, hcat]; omega) hlocks
  obtain ⟨f1, f2⟩ := vx_frame hsame
  rw [hhp] at f1 f2
  have hWs : s.WarmedH U.vm := State.WarmedH.trans hW0 hW
  have hcl : s.vm.findClass cls = some ce.cls := by
    have h9 := hO.cls
    rw [hvm] at h9
    exact h9
  have hall : s.sameButNew ({ U with vm := s.vm } : State) locs mc ms := by
    subst hA
    obtain ⟨e1, e2⟩ := hsame
    rw [State.setFrames_setFrames] at e1
    have h2 : (T.setVm s.vm).sameButNew ({ U with vm := s.vm } : State) [] (0 + 1) (0 + 6) := ⟨e1, e2⟩
    have h3 := X.same.trans h2
    rw [List.append_nil] at h3
    exact h3.mono hc hs
  refine ⟨U, ?_, .threw T.heap.size, hrun, hend, Or.inr ⟨T.heap.size, rfl, cls, ce, locs, hx U hWs.alike f1 (fun q hq => f2 q hq (fun z hz => nomatch hz)), hce, hO.vm, hcl, hWs, hall, hf⟩⟩
  refine st1 _ ?_
  show Steps p.tables e below (T1.setTop { method := m, pc := pc + 3, locals := ls, stack := .ref T.heap.size :: rest, locked := none }) _
  jvm_step X₁.here [X₁.here.top, hexec, d3', Value.category]
  exact hsteps
/-- 'throw new E("text")': new; dup; ldc; invokespecial; athrow -/
theorem vx_throwS {cc : ByteArray} {pc : Nat} (hexec : p.tables.exec = Jvm.exec) (hb : c.code = cc) (hl : l.stackTraces = false) {own cls text : String} {names : List String} {ik is ic mc ms sa : Nat} {A : Nat → Prop}
    (hown : s.vm.findClass own = some m.cls) (hcls : Bundle.fit cls = true) (hnames : ∀ n ∈ names, Bundle.fit n = true)
    (hk : (Cond.classLink own ik cls).before args s = true) (hini : (Cond.initialized cls).before args s = true) (hstr : vk_R own is text sa s) (hat : ∀ w ∈ vx_atS own ic cls names, w.before args s = true)
    (hgood : ∀ w ∈ Cond.classLink own ik cls :: Cond.initialized cls :: vx_atS own ic cls names, vx_ot w = true)
    (hU : vx_Zq Bundle.tN "UNASSIGNED_STACK" Bundle.steD A s s.heap) (hN : vx_Zq Bundle.tN "SUPPRESSED_SENTINEL" Bundle.listD A s s.heap) (hS : va_S A s.heap H locs) (hsize : ls.size = c.maxLocals)
    (d0 : decode cc pc = .ok (.new ik, 3)) (d3 : decode cc (pc + 3) = .ok (.dup, 1)) (d4 : decode cc (pc + 4) = .ok (.ldc is, 2)) (d6 : decode cc (pc + 6) = .ok (.invokespecial ic, 3)) (d9 : decode cc (pc + 9) = .ok (.athrow, 1))
    (hout : ∀ x ∈ c.exceptionTable.toList, covers x (pc + 9) = false)
    (hRframes : names.length + 3 < R.frames) (hRlocals : (rest.map fun v => v.category).sum + (13 * (names.length + 1) + 43) ≤ R.locals) (hRcells : cells + 1 ≤ R.cells) (hRslots : slots + 6 ≤ R.slots) (hlocks : meth.locks = false)
    (hx : ∀ t : State, s.vm.Alike t.vm → H.size ≤ t.heap.size → (∀ q : Nat, q < H.size → t.heap[q]? = H[q]?) → XC cls s t)
    (hf : ∀ z ∈ locs, free z.base) (hc : cells + 1 ≤ mc) (hs : slots + 6 ≤ ms) :
    W p l e R s m args below meth c H locs cells slots (vx_MQ below Qc XC args s mc ms free) (F0 m pc ls rest) := by
  intro T hT X
  have htr : e.platform.stackTraces = false := (show e.platform.stackTraces = l.stackTraces by rw [X.admits.platform]).trans hl
  have Y := vx_rebase X (R' := { frames := R.frames, locals := R.locals, cells := 1, slots := 6 }) (Nat.le_refl _) (Nat.le_refl _) hRcells hRslots
  obtain ⟨s', hA⟩ : ∃ z, z = (T.setVm s.vm).setFrames (.invoking m args :: below) := ⟨_, rfl⟩
  rw [← hA] at Y
  have hvm : s'.vm = s.vm := by rw [hA]; rfl
  have hhp : s'.heap = H := by rw [hA]; exact hT
  have hW0 : s.WarmedH s'.vm := by rw [hvm]; exact State.WarmedH.refl s
  have hat' : ∀ w ∈ vx_atS own ic cls names, w.before args s' = true := fun w hw => vx_ot_at hW0 hvm.symm (hgood w (List.mem_cons_of_mem _ (List.mem_cons_of_mem _ hw))) (hat w hw)
  have hk' : (Cond.classLink own ik cls).before args s' = true := vx_ot_at hW0 hvm.symm (hgood _ List.mem_cons_self) hk
  have hini' : (Cond.initialized cls).before args s' = true := vx_ot_at hW0 hvm.symm (hgood _ (List.mem_cons_of_mem _ List.mem_cons_self)) hini
  have hU' : vx_Zq Bundle.tN "UNASSIGNED_STACK" Bundle.steD A s' s'.heap := by rw [hhp]; exact vx_Zq.moved hW0.alike (hU.kept hS.2.1)
  have hN' : vx_Zq Bundle.tN "SUPPRESSED_SENTINEL" Bundle.listD A s' s'.heap := by rw [hhp]; exact vx_Zq.moved hW0.alike (hN.kept hS.2.1)
  have h : ∀ w ∈ Bundle.ownAtoms own ic cls names, w.before args s' = true := vx_own hat' (vx_isRefq hU'.1) (vx_isRefq hN'.1) hU'.2.word hN'.2.word
  have hown' : s'.vm.findClass own = some m.cls := by rw [hvm]; exact hown
  have hins : (Cond.instantiable cls 6).before args s' = true := h _ (by simp [Bundle.ownAtoms])
  obtain ⟨vm₁, cX, kX, hfX, hkX, -, -, X₁, st1⟩ := Y.newCold hexec (own := own) (C := cls) (index := ik) (n := 6) hown' hk' hins hini'
    (g := F0 m pc ls rest) rfl (by rw [hb]; exact d0) (Nat.le_refl _) (Nat.le_refl _)
  generalize hT1 : (T.setVm vm₁).pushCell { cls := cX, slots := kX.instanceTypes.map defaultValue, vm := .none } = T1 at X₁ st1
  have hcat : (Value.ref T.heap.size).category = 1 := rfl
  have hcellA : T1.heap[T.heap.size]? = some (freshCell cX kX) := by rw [← hT1]; exact State.heap_pushCell_size _ _
  have d3' : decode c.code (pc + 3) = .ok (.dup, 1) := by rw [hb]; exact d3
  have d4' : decode c.code (pc + 4) = .ok (.ldc is, 2) := by rw [hb]; exact d4
  have hstr' : vk_R own is text sa s' := vk_R.warm hW0 hstr
  obtain ⟨U, hsteps, hrun, hend, hW, hsame, ce, hce, hO⟩ := X₁.ctorThrowS hexec htr (own := own) (cls := cls) (names := names) (ic := ic) hown' hcls hnames h (fun x hx => nomatch hx) hfX hkX hcellA (by rw [hhp, hT]; exact Nat.le_refl _) (msg := .ref sa) rfl
    (g := { method := m, pc := pc + 6, locals := ls, stack := .ref sa :: .ref T.heap.size :: .ref T.heap.size :: rest, locked := none }) rfl hsize rfl rfl (rest := rest) rfl
    (by rw [hb]; exact d6) (by rw [hb]; exact d9) hout hRframes (by simp only [List.map_cons, List.sum_cons, hcat]; omega) hlocks
  obtain ⟨f1, f2⟩ := vx_frame hsame
  rw [hhp] at f1 f2
  have hWs : s.WarmedH U.vm := State.WarmedH.trans hW0 hW
  have hcl : s.vm.findClass cls = some ce.cls := by
    have h9 := hO.cls
    rw [hvm] at h9
    exact h9
  have hall : s.sameButNew ({ U with vm := s.vm } : State) locs mc ms := by
    subst hA
    obtain ⟨e1, e2⟩ := hsame
    rw [State.setFrames_setFrames] at e1
    have h2 : (T.setVm s.vm).sameButNew ({ U with vm := s.vm } : State) [] (0 + 1) (0 + 6) := ⟨e1, e2⟩
    have h3 := X.same.trans h2
    rw [List.append_nil] at h3
    exact h3.mono hc hs
  refine ⟨U, ?_, .threw T.heap.size, hrun, hend, Or.inr ⟨T.heap.size, rfl, cls, ce, locs, hx U hWs.alike f1 (fun q hq => f2 q hq (fun z hz => nomatch hz)), hce, hO.vm, hcl, hWs, hall, hf⟩⟩
  refine st1 _ ?_
  show Steps p.tables e below (T1.setTop { method := m, pc := pc + 3, locals := ls, stack := .ref T.heap.size :: rest, locked := none }) _
  jvm_step X₁.here [X₁.here.top, hexec, d3', Value.category]
  exact X₁.ldcString hexec (own := own) (text := text) (index := is) (a := sa) hown' hstr'.1 hstr'.2
    (g := { method := m, pc := pc + 4, locals := ls, stack := .ref T.heap.size :: .ref T.heap.size :: rest, locked := none }) rfl d4' _ hsteps
/-- 'throw new E("text")', the text by a wide index -/
theorem vx_throwSW {cc : ByteArray} {pc : Nat} (hexec : p.tables.exec = Jvm.exec) (hb : c.code = cc) (hl : l.stackTraces = false) {own cls text : String} {names : List String} {ik is ic mc ms sa : Nat} {A : Nat → Prop}
    (hown : s.vm.findClass own = some m.cls) (hcls : Bundle.fit cls = true) (hnames : ∀ n ∈ names, Bundle.fit n = true)
    (hk : (Cond.classLink own ik cls).before args s = true) (hini : (Cond.initialized cls).before args s = true) (hstr : vk_R own is text sa s) (hat : ∀ w ∈ vx_atS own ic cls names, w.before args s = true)
    (hgood : ∀ w ∈ Cond.classLink own ik cls :: Cond.initialized cls :: vx_atS own ic cls names, vx_ot w = true)
    (hU : vx_Zq Bundle.tN "UNASSIGNED_STACK" Bundle.steD A s s.heap) (hN : vx_Zq Bundle.tN "SUPPRESSED_SENTINEL" Bundle.listD A s s.heap) (hS : va_S A s.heap H locs) (hsize : ls.size = c.maxLocals)
    (d0 : decode cc pc = .ok (.new ik, 3)) (d3 : decode cc (pc + 3) = .ok (.dup, 1)) (d4 : decode cc (pc + 4) = .ok (.ldc_w is, 3)) (d7 : decode cc (pc + 7) = .ok (.invokespecial ic, 3)) (d10 : decode cc (pc + 10) = .ok (.athrow, 1))
    (hout : ∀ x ∈ c.exceptionTable.toList, covers x (pc + 10) = false)
    (hRframes : names.length + 3 < R.frames) (hRlocals : (rest.map fun v => v.category).sum + (13 * (names.length + 1) + 43) ≤ R.locals) (hRcells : cells + 1 ≤ R.cells) (hRslots : slots + 6 ≤ R.slots) (hlocks : meth.locks = false)
    (hx : ∀ t : State, s.vm.Alike t.vm → H.size ≤ t.heap.size → (∀ q : Nat, q < H.size → t.heap[q]? = H[q]?) → XC cls s t)
    (hf : ∀ z ∈ locs, free z.base) (hc : cells + 1 ≤ mc) (hs : slots + 6 ≤ ms) :
    W p l e R s m args below meth c H locs cells slots (vx_MQ below Qc XC args s mc ms free) (F0 m pc ls rest) := by
  intro T hT X
  have htr : e.platform.stackTraces = false := (show e.platform.stackTraces = l.stackTraces by rw [X.admits.platform]).trans hl
  have Y := vx_rebase X (R' := { frames := R.frames, locals := R.locals, cells := 1, slots := 6 }) (Nat.le_refl _) (Nat.le_refl _) hRcells hRslots
  obtain ⟨s', hA⟩ : ∃ z, z = (T.setVm s.vm).setFrames (.invoking m args :: below) := ⟨_, rfl⟩
  rw [← hA] at Y
  have hvm : s'.vm = s.vm := by rw [hA]; rfl
  have hhp : s'.heap = H := by rw [hA]; exact hT
  have hW0 : s.WarmedH s'.vm := by rw [hvm]; exact State.WarmedH.refl s
  have hat' : ∀ w ∈ vx_atS own ic cls names, w.before args s' = true := fun w hw => vx_ot_at hW0 hvm.symm (hgood w (List.mem_cons_of_mem _ (List.mem_cons_of_mem _ hw))) (hat w hw)
  have hk' : (Cond.classLink own ik cls).before args s' = true := vx_ot_at hW0 hvm.symm (hgood _ List.mem_cons_self) hk
  have hini' : (Cond.initialized cls).before args s' = true := vx_ot_at hW0 hvm.symm (hgood _ (List.mem_cons_of_mem _ List.mem_cons_self)) hini
  have hU' : vx_Zq Bundle.tN "UNASSIGNED_STACK" Bundle.steD A s' s'.heap := by rw [hhp]; exact vx_Zq.moved hW0.alike (hU.kept hS.2.1)
  have hN' : vx_Zq Bundle.tN "SUPPRESSED_SENTINEL" Bundle.listD A s' s'.heap := by rw [hhp]; exact vx_Zq.moved hW0.alike (hN.kept hS.2.1)
  have h : ∀ w ∈ Bundle.ownAtoms own ic cls names, w.before args s' = true := vx_own hat' (vx_isRefq hU'.1) (vx_isRefq hN'.1) hU'.2.word hN'.2.word
  have hown' : s'.vm.findClass own = some m.cls := by rw [hvm]; exact hown
  have hins : (Cond.instantiable cls 6).before args s' = true := h _ (by simp [Bundle.ownAtoms])
  obtain ⟨vm₁, cX, kX, hfX, hkX, -, -, X₁, st1⟩ := Y.newCold hexec (own := own) (C := cls) (index := ik) (n := 6) hown' hk' hins hini'
    (g := F0 m pc ls rest) rfl (by rw [hb]; exact d0) (Nat.le_refl _) (Nat.le_refl _)
  generalize hT1 : (T.setVm vm₁).pushCell { cls := cX, slots := kX.instanceTypes.map defaultValue, vm := .none } = T1 at X₁ st1
  have hcat : (Value.ref T.heap.size).category = 1 := rfl
  have hcellA : T1.heap[T.heap.size]? = some (freshCell cX kX) := by rw [← hT1]; exact State.heap_pushCell_size _ _
  have d3' : decode c.code (pc + 3) = .ok (.dup, 1) := by rw [hb]; exact d3
  have d4' : decode c.code (pc + 4) = .ok (.ldc_w is, 3) := by rw [hb]; exact d4
  have hstr' : vk_R own is text sa s' := vk_R.warm hW0 hstr
  obtain ⟨U, hsteps, hrun, hend, hW, hsame, ce, hce, hO⟩ := X₁.ctorThrowS hexec htr (own := own) (cls := cls) (names := names) (ic := ic) hown' hcls hnames h (fun x hx => nomatch hx) hfX hkX hcellA (by rw [hhp, hT]; exact Nat.le_refl _) (msg := .ref sa) rfl
    (g := { method := m, pc := pc + 7, locals := ls, stack := .ref sa :: .ref T.heap.size :: .ref T.heap.size :: rest, locked := none }) rfl hsize rfl rfl (rest := rest) rfl
    (by rw [hb]; exact d7) (by rw [hb]; exact d10) hout hRframes (by simp only [List.map_cons, List.sum_cons, hcat]; omega) hlocks
  obtain ⟨f1, f2⟩ := vx_frame hsame
  rw [hhp] at f1 f2
  have hWs : s.WarmedH U.vm := State.WarmedH.trans hW0 hW
  have hcl : s.vm.findClass cls = some ce.cls := by
    have h9 := hO.cls
    rw [hvm] at h9
    exact h9
  have hall : s.sameButNew ({ U with vm := s.vm } : State) locs mc ms := by
    subst hA
    obtain ⟨e1, e2⟩ := hsame
    rw [State.setFrames_setFrames] at e1
    have h2 : (T.setVm s.vm).sameButNew ({ U with vm := s.vm } : State) [] (0 + 1) (0 + 6) := ⟨e1, e2⟩
    have h3 := X.same.trans h2
    rw [List.append_nil] at h3
    exact h3.mono hc hs
  refine ⟨U, ?_, .threw T.heap.size, hrun, hend, Or.inr ⟨T.heap.size, rfl, cls, ce, locs, hx U hWs.alike f1 (fun q hq => f2 q hq (fun z hz => nomatch hz)), hce, hO.vm, hcl, hWs, hall, hf⟩⟩
  refine st1 _ ?_
  show Steps p.tables e below (T1.setTop { method := m, pc := pc + 3, locals := ls, stack := .ref T.heap.size :: rest, locked := none }) _
  jvm_step X₁.here [X₁.here.top, hexec, d3', Value.category]
  exact X₁.ldcStringW hexec (own := own) (text := text) (index := is) (a := sa) hown' hstr'.1 hstr'.2
    (g := { method := m, pc := pc + 4, locals := ls, stack := .ref T.heap.size :: .ref T.heap.size :: rest, locked := none }) rfl d4' _ hsteps
end Ends
section Bodies
variable {l : Launch}
theorem vx_ofW {y : MethodName} {ws ws' : List Cond} {rm : Room} {Pc : Array Value → State → Prop} {Qc : Array Value → State → Outcome → State → Prop} {XC : String → State → State → Prop} {mc ms : Nat} {free : Addr → Prop} {cc : ByteArray} {maxL : Nat} {ret : Option FieldType}
    (hy : plainName y.cls = true) (hw : ws = Cond.code y cc maxL ret :: ws')
    (body : ∀ p e s m args below meth c s₁, BodyLoose p l y (headSpec ws rm) cc maxL ret e s m args below meth c s₁ → c.maxLocals = maxL → (∀ x ∈ c.exceptionTable.toList, False) → Pc args s →
      W p l e (headSpec ws rm).room s m args below meth c s.heap [] 0 0 (vx_MQ below Qc XC args s mc ms free) (entryFrame m args maxL)) : vx_Met l y ws rm Pc Qc XC mc ms free := by
  refine MetFree.of_bodyS (code := cc) (maxLocals := maxL) (ret := ret) hy ?_ ?_
  · intro args s m h hn
    obtain ⟨meth, c, h1, h2, h3, h4, h5, h6, -, -⟩ := Cond.code_spec hn (atoms_spec (ws := ws) h _ (by rw [hw]; exact List.mem_cons_self))
    exact ⟨meth, c, h1, h2, h3, h4, h5, h6⟩
  · intro p e s m args below meth c s₁ B hml hP _
    have hh0 : s₁.heap = s.heap := by rw [B.state]; rfl
    have ht : ∀ x ∈ c.exceptionTable.toList, False := by
      obtain ⟨meth9, c9, h1, h2, -, -, -, -, h7, -⟩ := Cond.code_spec B.named (atoms_spec (ws := ws) B.pre _ (by rw [hw]; exact List.mem_cons_self))
      cases Option.some.inj (h1.symm.trans B.method)
      cases Option.some.inj (h2.symm.trans (Stand.of_body B).code)
      intro x hx
      rw [Array.isEmpty_iff.mp h7] at hx
      cases hx
    obtain ⟨t, a1, o, b1, b2, b3⟩ := body p e s m args below meth c s₁ B hml ht hP s₁ hh0 (Stand.of_body B)
    exact ⟨t, o, a1, b1, b2, b3⟩
/-- the table of a body with handlers -/
theorem vx_table {p : Program} {x y : MethodName} {S : Spec} {cc bytes : ByteArray} {maxL maxL' : Nat} {ret ret' : Option FieldType} {e : Env} {s s₁ : State} {m : MethodId} {args : Array Value} {below : List Frame} {meth : Method} {c : Code} {hh : List (Nat × Nat × Nat × Nat)}
    (B : BodyLoose p l y S cc maxL ret e s m args below meth c s₁) (h : (Cond.codeWith y bytes maxL' ret' hh).before args s = true) : c.exceptionTable.toList = tableOf hh := by
  obtain ⟨m9, meth9, c9, hn9, h1, h2, -, -, h6, -⟩ := Cond.codeWith_spec h
  cases Option.some.inj (hn9.symm.trans B.named)
  cases Option.some.inj (h1.symm.trans B.method)
  cases Option.some.inj (h2.symm.trans (Stand.of_body B).code)
  rw [← h6, table_eq]
end Bodies
end VXA
/-! ===== END ===== -/
/-! ===== BEGIN a static call of a method with an exception table ===== -/
section VXS
variable {p : Program} {l : Launch} {e : Env} {R : Room} {s : State} {m : MethodId} {args : Array Value} {below : List Frame} {meth : Method} {c : Code} {T : State} {H : Heap} {locs : List Loc} {cells slots : Nat}
abbrev vx_CSW (R : Room) (s : State) (args : Array Value) (own : String) (index : Nat) (y : MethodName) (bytes : ByteArray) (maxL : Nat) (ret : Option FieldType) (hh : List (Nat × Nat × Nat × Nat)) (ws : List Cond) (rm : Room) (mc ms n : Nat) : Prop :=
  (rm.cells = mc ∧ rm.slots = ms ∧ rm.frames + 1 ≤ R.frames ∧ 8 + (maxL + 11) + rm.locals ≤ R.locals ∧ (∀ w ∈ ws, ∀ (a' : Array Value) (U : State), s.WarmedH U.vm → w.before a' U = true) ∧ Cond.codeWith y bytes maxL ret hh ∈ ws) ∧
  (Cond.codeWith y bytes maxL ret hh).before args s = true ∧ (Cond.initialized y.cls).before args s = true ∧ (y.cls ≠ "java/lang/invoke/MethodHandle" ∧ y.cls ≠ "java/lang/invoke/VarHandle") ∧
  (∀ sig, parseMethodDescriptor y.desc = some sig → n = sig.parameters.length) ∧ (Cond.methodLink own index y).before args s = true ∧ (Cond.static y).before args s = true
theorem vx_cwSW {own : String} {index maxL mc ms : Nat} {y : MethodName} {bytes : ByteArray} {ret : Option FieldType} {hh : List (Nat × Nat × Nat × Nat)} {Ts ws ws' : List Cond} {rm : Room} (n : Nat) (ht : ∀ w ∈ Ts, w.before args s = true) (hT : GoodIn Ts (va_wsS own index y ws)) (hw : ws = Cond.codeWith y bytes maxL ret hh :: ws') (hrc : rm.cells = mc) (hrs : rm.slots = ms)
    (hd : y.cls ≠ "java/lang/invoke/MethodHandle" ∧ y.cls ≠ "java/lang/invoke/VarHandle" ∧ (parseMethodDescriptor y.desc).map (fun d => d.parameters.length) = some n) (hR : rm.frames + 1 ≤ R.frames ∧ 8 + (maxL + 11) + rm.locals ≤ R.locals) :
    vx_CSW R s args own index y bytes maxL ret hh ws rm mc ms n := by
  have ok : ∀ w ∈ va_wsS own index y ws, w.before args s = true := fun w h => ht w (hT w h).1
  have hG : GoodIn Ts ws := fun w h => hT w (by unfold va_wsS; exact List.mem_append_right _ h)
  have hc : Cond.codeWith y bytes maxL ret hh ∈ ws := by rw [hw]; exact List.mem_cons_self
  refine ⟨⟨hrc, hrs, hR.1, hR.2, pay_in ht hG, hc⟩, ht _ (hG _ hc).1, ok _ (by simp [va_wsS]), ⟨hd.1, hd.2.1⟩, fun sig h => ?_, ok _ (by simp [va_wsS]), ok _ (by simp [va_wsS])⟩
  have h2 := hd.2.2
  rw [h] at h2
  exact (Option.some.inj h2).symm
theorem vx_callSW (X : Stand p l e R s m args below meth c T locs cells slots) (hexec : p.tables.exec = Jvm.exec) {own : String} {index : Nat} {y : MethodName} {bytes : ByteArray} {maxL : Nat} {ret : Option FieldType} {hh : List (Nat × Nat × Nat × Nat)}
    (hown : s.vm.findClass own = some m.cls) (hlink : (Cond.methodLink own index y).before args s = true) (hstat : (Cond.static y).before args s = true) (hinit : (Cond.initialized y.cls).before args s = true)
    (hcode : (Cond.codeWith y bytes maxL ret hh).before args s = true) (hy : y.cls ≠ "java/lang/invoke/MethodHandle" ∧ y.cls ≠ "java/lang/invoke/VarHandle")
    {W9 : Nat} {Pre : Pt → Array Value → Prop} {Post : Pt → Array Value → Option Value → Pt → Prop} (hK : Back l R p e below s args y 3 W9 Pre Post)
    {g : JFrame} (hg : g.method = m) (hsize : g.locals.size = c.maxLocals) {argsL rest : List Value} (hlen : ∀ sig, parseMethodDescriptor y.desc = some sig → argsL.length = sig.parameters.length)
    (hstack : g.stack = argsL.reverse ++ rest) (hW : 2 * g.monitorRoom + (rest.map fun v => v.category).sum ≤ W9) (hdg : decode c.code g.pc = .ok (.invokestatic index, 3))
    (hpre : ∀ vm₁, s.WarmedH vm₁ → Pre ⟨T.setVm vm₁, locs, cells, slots⟩ argsL.toArray) :
    ∃ (v : Option Value) (vm₁ : Vm) (B : Pt), s.WarmedH vm₁ ∧ Stand p l e R s m args below meth c B.U B.locs B.cells B.slots ∧ Post ⟨T.setVm vm₁, locs, cells, slots⟩ argsL.toArray v B ∧
      ∀ target, Steps p.tables e below (B.U.setTop { g with pc := g.pc + 3, stack := v.toList ++ rest }) target → Steps p.tables e below (T.setTop g) target := by
  obtain ⟨mk, methM, cM, hnamed, hmethM, -, -, -, -, -, -, hsigM⟩ := Cond.codeWith_spec hcode
  have hstatic : methM.isStatic = true := Cond.static_spec hnamed hmethM hstat
  obtain ⟨kP, hkP, -⟩ := className_of_methodNamed hnamed
  have hinitP : kP.init = .initialized := Cond.initialized_spec (findClass_of_methodNamed hnamed) hkP hinit
  obtain ⟨vm₁, X₁, hstep₁⟩ := X.invokestatic hexec hown hlink hnamed hmethM hstatic hkP hinitP hy (g := g) hg (argsL := argsL) (rest := rest) (hlen _ hsigM) hstack hdg
  obtain ⟨v, B, X', hpost, hsteps⟩ := hK m meth c ⟨T.setVm vm₁, locs, cells, slots⟩ { g with stack := rest } (.invokestatic index) mk argsL.toArray X₁ hg hsize hdg hW (X₁.named hnamed) (hpre vm₁ X₁.warmed)
  exact ⟨v, vm₁, B, X₁.warmed, X', hpost, fun target h => hstep₁ _ fun acts => by rw [doInvoke_state]; exact hsteps.trans h⟩
theorem vx_runSW {y : MethodName} {bytes cc : ByteArray} {maxL nL mc ms n index : Nat} {ret : Option FieldType} {hh : List (Nat × Nat × Nat × Nat)} {ws : List Cond} {rm : Room} {Pc : Array Value → State → Prop} {Qc : Array Value → State → Outcome → State → Prop} {free : Addr → Prop} {Ts : List Cond} {own : String} {As rest : List Value} {g : JFrame}
    (S : CallFix p m c cc nL s args Ts own) (hM : Met l y ws rm Pc Qc mc ms free) (cw : vx_CSW R s args own index y bytes maxL ret hh ws rm mc ms n) (hp : PreS s H Pc As)
    (hg : g.method = m) (hn : As.length = n) (hsize : g.locals.size = nL) (hstack : g.stack = As.reverse ++ rest) (hW : 2 * g.monitorRoom + (rest.map fun v => v.category).sum ≤ 8) (hdg : decode cc g.pc = .ok (.invokestatic index, 3)) (hf : cells + mc ≤ R.cells ∧ slots + ms ≤ R.slots) :
    va_Run p l e R s m args below meth c H locs cells slots mc ms g rest (Qc As.toArray) (free) := by
  obtain ⟨⟨hrc, hrs, hfr, hlo, hws, hcw⟩, hcode, hini, hy, hlen, hl, hstt⟩ := cw
  have hK : Back l R p e below s args y 3 8 (PreOf R mc ms Pc) (PostOf Qc mc ms free) := va_backW (hh := hh) (bytes := bytes) (maxL := maxL) (ret := ret) hM hp.1 hrc hrs hfr hlo hws hcw (fun a' U hW => word_at hW (Or.inl (by first | rfl | simp [Cond.onTables, Cond.keeps, Cond.steady])) hini)
  obtain ⟨hx, hb, hml, ho, -⟩ := S
  intro T hT X
  obtain ⟨v, vm₁, ⟨U', l2, c2, s2⟩, hW₁, X', ⟨g', mk, t, L, e1, e2, hq, h1, hL, h2, h3⟩, st⟩ := vx_callSW X hx (hh := hh) (bytes := bytes) (maxL := maxL) (ret := ret) ho hl hstt hini hcode hy hK hg (hsize.trans hml.symm) (argsL := As) (rest := rest) (fun sig h => hn.trans (hlen sig h)) hstack hW (by rw [hb]; exact hdg)
    (fun vm₁ hW₁ => ⟨hf.1, hf.2, hp.2 (T.setVm vm₁) hT hW₁⟩)
  dsimp only [Pt.U, Pt.locs, Pt.cells, Pt.slots] at X' e1 e2 h1 h2 h3 st
  subst h1; subst h2; subst h3
  exact ⟨v, (T.setVm vm₁).calling g' mk As.toArray, t, U', L, hT, X', hL, e1, e2, hq, st⟩
/-- not caught here, past rows that name other classes: it goes on to the caller -/
theorem vx_outP {p : Program} {l : Launch} {e : Env} {R : Room} {s : State} {m : MethodId} {args : Array Value} {below : List Frame} {meth : Method} {c : Code} {H : Heap} {locs : List Loc} {cells slots : Nat} {free : Addr → Prop} {ls : Array Slot} {rest : List Value} {Qc : Array Value → State → Outcome → State → Prop} {XC : String → State → State → Prop}
    {pc : Nat} {own E : String} {ce : Cell} {q : Addr} {mc ms : Nat} (hown : s.vm.findClass own = some m.cls) (hlocks : meth.locks = false)
    (hpass : ∀ z ∈ c.exceptionTable.toList, covers z pc = false ∨ (z.catchType ≠ 0 ∧ ∃ nm : String, (Cond.classLink own z.catchType nm).before args s = true ∧ va_Nc E nm s)) (hcell : H[q]? = some ce) (hv : ce.vm = .none) (hcl : s.vm.findClass E = some ce.cls)
    (hx : ∀ t : State, t.heap = H → s.vm.Alike t.vm → XC E s t) (hf : ∀ z ∈ locs, free z.base) (hc : cells ≤ mc) (hs : slots ≤ ms) :
    vx_W p l e R s m args below meth c H locs cells slots (vx_MQ below Qc XC args s mc ms free) (F0 m pc ls rest) q := by
  intro T hT X
  have hpl : e.platform.magicAccessors = ({} : Platform).magicAccessors := by rw [X.admits.platform]
  obtain ⟨vm', hW', X', st⟩ := X.outThrough hlocks q (g := F0 m pc ls rest) rfl rfl rfl (cell := ce) (by rw [hT]; exact hcell) (by rw [hv]; rfl)
    (by obtain ⟨k9, h9, -⟩ := Vm.findClass_spec hcl; exact ⟨k9, h9⟩) (fun z hz => by
      rcases hpass z hz with h | ⟨hz0, nm, hl1, hn1⟩
      · exact Or.inl h
      · obtain ⟨c6, hc6, hcl6⟩ := Cond.classLink_spec hown hl1 e.platform hpl
        obtain ⟨a8, b8, h1, h2, h3⟩ := hn1
        cases Option.some.inj (h1.symm.trans hcl)
        cases Option.some.inj (h2.symm.trans hc6)
        exact Or.inr ⟨hz0, _, hcl6, h3⟩)
  obtain ⟨g₀, hfr⟩ := X'.frames_eq
  have hcell9 : ((T.setVm vm').setFrames (.throwing q :: below)).heap[q]? = some ce := by
    show T.heap[q]? = some ce
    rw [hT]; exact hcell
  have hend : Ended ((T.setVm vm').setFrames (.throwing q :: below)) below (.threw q) := State.frames_setFrames _ (State.cur_lt_of_frames hfr)
  refine ⟨(T.setVm vm').setFrames (.throwing q :: below), ?_, .threw q, X'.here.running, hend, Or.inr ⟨q, rfl, E, ce, locs, hx _ hT (X'.ends _).1.alike, hcell9, hv, hcl, (X'.ends _).1, (X'.ends _).2.mono hc hs, hf⟩⟩
  rw [X.pushThrowing_eq]
  exact st
/-- a thing of a world lies in the heap -/
theorem vx_lt {D : va_G} {cl : List vw_C} {ws : va_W} {H1 : Heap} (h : va_P D cl ws H1) {k : Nat} {q : Nat × va_E} (hk : ws[k]? = some q) : q.1 < H1.size := (h k q hk).lt
end VXS
/-! ===== END ===== -/
/-! ===== BEGIN methods with a table of their own: called by a name, returning or throwing ===== -/
section VXH
/-! vx_backW, vx_callVX, vx_callSX, vx_callVW, vx_runVW, vx_runVX, vx_runSX, vx_ofWH follow the same proofs as their sisters above (Free/Laws.lean, Shelf42/LK1.lean); vx_outP calls Shelf42/NT130.lean (outThrough). -/
section
variable {l : Launch} {R : Room} {p : Program} {e : Env} {below : List Frame} {s : State} {sargs : Array Value} {y : MethodName} {len W9 : Nat}
theorem vx_backW {ws : List Cond} {rm : Room} {Pc : Array Value → State → Prop} {Qc : Array Value → State → Outcome → State → Prop} {XC : String → State → State → Prop} {mc ms : Nat} {free : Addr → Prop} {bytes : ByteArray} {maxL : Nat} {ret : Option FieldType} {hh : List (Nat × Nat × Nat × Nat)}
    (hM : vx_Met l y ws rm Pc Qc XC mc ms free) (hblind : FrameBlind Pc) (hrc : rm.cells = mc) (hrs : rm.slots = ms)
    (hframes : rm.frames + 1 ≤ R.frames) (hlocals : W9 + (maxL + 11) + rm.locals ≤ R.locals)
    (hws : ∀ w ∈ ws, ∀ a' U, s.WarmedH U.vm → w.before a' U = true) (hcode : Cond.codeWith y bytes maxL ret hh ∈ ws) (hinit : ∀ a' U, s.WarmedH U.vm → (Cond.initialized y.cls).before a' U = true) :
    vx_Back l R p e below s sargs y len W9 (PreOf R mc ms Pc) (PostOf Qc mc ms free) (vx_Post XC mc ms free) := by
  intro m meth c A g ig mk a X hg hsize hdg hW hn hp
  have h1 : (headSpec ws rm).pre.before a A.U = true := atoms_intro fun w hw => hws w hw _ _ X.warmed
  have h2 : (Cond.codeWith y bytes maxL ret hh).before a A.U = true := hws _ hcode _ _ X.warmed
  have h3 : (Cond.initialized y.cls).before a A.U = true := hinit _ _ X.warmed
  have h4 : A.cells + (headSpec ws rm).room.cells ≤ R.cells := by rw [show (headSpec ws rm).room.cells = mc from hrc]; exact hp.1
  have h5 : A.slots + (headSpec ws rm).room.slots ≤ R.slots := by rw [show (headSpec ws rm).room.slots = ms from hrs]; exact hp.2.1
  have hPc : Pc a (A.U.calling g mk a) := hblind _ _ _ _ hp.2.2
  obtain ⟨U, Ls, c0, s0⟩ := A
  dsimp only [Pt.U, Pt.locs, Pt.cells, Pt.slots] at h1 h2 h3 h4 h5 X hn hPc ⊢
  obtain ⟨m9, methY, cY, hn9, hmY, hcY, -, hlY, -⟩ := Cond.codeWith_spec h2
  cases Option.some.inj (hn9.symm.trans hn)
  obtain ⟨kY, hkY, -⟩ := className_of_methodNamed hn
  have hinitY : kY.init = .initialized := Cond.initialized_spec (findClass_of_methodNamed hn) hkY h3
  have h : At U g.method c below := by rw [hg]; exact X.here
  have hlocals9 : W9 + (maxL + 11) + (headSpec ws rm).room.locals ≤ R.locals := hlocals
  have happ : (headSpec ws rm).appliesLoose y e.platform (U.calling g mk a) = true :=
    Spec.appliesLoose_calling (g := g) h hdg hn hkY hinitY
      (X.room_calling (g := g) (R' := (headSpec ws rm).room) hsize hmY hcY hframes (by rw [hlY]; omega) h4 h5) h1
  obtain ⟨mid, hmid⟩ := h.above
  have hfr : (U.setTop g).frames = (.java g :: mid) ++ below := by rw [State.frames_setTop' g h.top, hmid]; rfl
  obtain ⟨o, s₂, hsteps, -, hend, hq⟩ := Steps.callFree hM p X.admits X.cas X.clock (acts := []) hfr happ hPc trivial
  have hq' : vx_Q Qc XC mc ms free a (U.calling g mk a) o s₂ := hq
  rw [State.frames_setTop' g h.top] at hend
  obtain ⟨g₀, hg0⟩ := Option.isSome_iff_exists.mp h.top
  obtain ⟨r, hr⟩ := State.topJava?_eq_some.mp hg0
  have hr' : (({ U with heap := s₂.heap, slotsUsed := s₂.slotsUsed } : State).setVm s₂.vm).frames = .java g₀ :: r := hr
  rcases hq' with ⟨hqc, L, hfe, hL⟩ | ⟨q, rfl, E, ce, L, hx, hce, hcv, hcl, hW₂, hsm, hL⟩
  · obtain ⟨⟨v, rfl⟩, hW₂, e2, q2, q3, q4, q5, q6⟩ := id hfe
    have e3 : s₂ = ({ (U.calling g mk a).setFrames s₂.frames with heap := s₂.heap, slotsUsed := s₂.slotsUsed } : State).setVm s₂.vm := by
      have : s₂ = ({ s₂ with vm := (U.calling g mk a).vm } : State).setVm s₂.vm := rfl
      rw [e2] at this
      exact this
    obtain ⟨c₂, i₂, len₂, hc₂, hd₂, hf₂⟩ := hend
    have hW' : U.WarmedH s₂.vm := hW₂
    have hcc : c₂ = c := by
      have h1 : s₂.code? g.method = U.code? g.method := by
        rw [State.code?_eq, State.code?_eq, hW'.alike.method?]
      exact Option.some.inj (hc₂.symm.trans (h1.trans h.code))
    subst hcc
    have hlen : len₂ = len := by rw [hdg] at hd₂; cases hd₂; rfl
    subst hlen
    have hs₂ : s₂ = (({ U with heap := s₂.heap, slotsUsed := s₂.slotsUsed } : State).setVm s₂.vm).setTop { g with pc := g.pc + len₂, stack := v.toList ++ g.stack } := by
      refine e3.trans ?_
      rw [hf₂, State.calling_eq h.top, State.setFrames_setFrames, State.setTop_of_frames _ hr', hr]
      rfl
    have hsame : U.sameButNew ({ U with heap := s₂.heap, slotsUsed := s₂.slotsUsed } : State) L mc ms := by
      refine ⟨?_, q2, q3, q4, q5, q6⟩
      obtain ⟨t, ht, -⟩ := State.frames_cons hr
      show ({ U with heap := s₂.heap, slotsUsed := s₂.slotsUsed } : State) = { U.setFrames U.frames with heap := s₂.heap, slotsUsed := s₂.slotsUsed }
      rw [State.setFrames_self ht]
    subst hg
    refine Or.inl ⟨v, ⟨(({ U with heap := s₂.heap, slotsUsed := s₂.slotsUsed } : State).setVm s₂.vm), Ls ++ L, c0 + mc, s0 + ms⟩,
      ⟨X.admits, X.cas, X.clock, X.frames, X.room, X.hears, X.method, X.code, (X.here.setHeapUsed s₂.heap s₂.slotsUsed).setVm hW'.alike, X.tail, State.WarmedH.trans X.warmed hW', X.limits, X.bytes, X.same.trans (hsame.setVm s.vm)⟩,
      ⟨g, mk, s₂, L, rfl, rfl, hqc, rfl, hL, rfl, rfl⟩, ?_⟩
    show Steps p.tables e below _ ((({ U with heap := s₂.heap, slotsUsed := s₂.slotsUsed } : State).setVm s₂.vm).setTop { g with pc := g.pc + len₂, stack := v.toList ++ g.stack })
    rw [← hs₂]
    exact hsteps
  · obtain ⟨e2, q2, q3, q4, q5, q6⟩ := id hsm
    have e3 : s₂ = ({ (U.calling g mk a).setFrames s₂.frames with heap := s₂.heap, slotsUsed := s₂.slotsUsed } : State).setVm s₂.vm := by
      have : s₂ = ({ s₂ with vm := (U.calling g mk a).vm } : State).setVm s₂.vm := rfl
      rw [e2] at this
      exact this
    have hf₂ : s₂.frames = .throwing q :: .java g :: U.frames.tail := hend
    have hW' : U.WarmedH s₂.vm := hW₂
    have hs₂ : s₂ = ((({ U with heap := s₂.heap, slotsUsed := s₂.slotsUsed } : State).setVm s₂.vm).setTop g).pushFrame (.throwing q) := by
      refine e3.trans ?_
      rw [hf₂, State.calling_eq h.top, State.setFrames_setFrames, State.pushFrame, State.frames_setTop _ hr', State.setTop_of_frames _ hr', State.setFrames_setFrames, hr]
      rfl
    have hsame : U.sameButNew ({ U with heap := s₂.heap, slotsUsed := s₂.slotsUsed } : State) L mc ms := by
      refine ⟨?_, q2, q3, q4, q5, q6⟩
      obtain ⟨t, ht, -⟩ := State.frames_cons hr
      show ({ U with heap := s₂.heap, slotsUsed := s₂.slotsUsed } : State) = { U.setFrames U.frames with heap := s₂.heap, slotsUsed := s₂.slotsUsed }
      rw [State.setFrames_self ht]
    subst hg
    refine Or.inr ⟨q, ⟨(({ U with heap := s₂.heap, slotsUsed := s₂.slotsUsed } : State).setVm s₂.vm), Ls ++ L, c0 + mc, s0 + ms⟩,
      ⟨X.admits, X.cas, X.clock, X.frames, X.room, X.hears, X.method, X.code, (X.here.setHeapUsed s₂.heap s₂.slotsUsed).setVm hW'.alike, X.tail, State.WarmedH.trans X.warmed hW', X.limits, X.bytes, X.same.trans (hsame.setVm s.vm)⟩,
      ⟨g, mk, s₂, L, E, ce, rfl, rfl, hx, hce, hcv, hcl, rfl, hL, rfl, rfl⟩, ?_⟩
    show Steps p.tables e below _ (((({ U with heap := s₂.heap, slotsUsed := s₂.slotsUsed } : State).setVm s₂.vm).setTop g).pushFrame (.throwing q))
    rw [← hs₂]
    exact hsteps
end
variable {p : Program} {l : Launch} {e : Env} {R : Room} {s : State} {m : MethodId} {args : Array Value} {below : List Frame} {meth : Method} {c : Code} {T : State} {H : Heap} {locs : List Loc} {cells slots : Nat}
theorem vx_callVX (X : Stand p l e R s m args below meth c T locs cells slots) (hexec : p.tables.exec = Jvm.exec) {own C : String} {index : Nat} {y : MethodName} {bytes : ByteArray} {maxL : Nat} {ret : Option FieldType} {hh : List (Nat × Nat × Nat × Nat)}
    (hown : s.vm.findClass own = some m.cls) (hlink : (Cond.methodLink own index y).before args s = true) (hinst : (Cond.instanceMethod y).before args s = true) (hsel : (Cond.selects C y y).before args s = true)
    (hcode : (Cond.codeWith y bytes maxL ret hh).before args s = true) (hy : y.cls ≠ "java/lang/invoke/MethodHandle" ∧ y.cls ≠ "java/lang/invoke/VarHandle")
    {W9 : Nat} {Pre : Pt → Array Value → Prop} {Post : Pt → Array Value → Option Value → Pt → Prop} {PostX : Pt → Array Value → Addr → Pt → Prop} (hK : vx_Back l R p e below s args y 3 W9 Pre Post PostX)
    {b : Addr} {cellB : Cell} (hcell : T.heap[b]? = some cellB) (hobj : cellB.vm.isStatics = false) (hcls : s.vm.findClass C = some cellB.cls)
    {g : JFrame} (hg : g.method = m) (hsize : g.locals.size = c.maxLocals) {argsL rest : List Value} (hlen : ∀ sig, parseMethodDescriptor y.desc = some sig → argsL.length = sig.parameters.length)
    (hstack : g.stack = argsL.reverse ++ .ref b :: rest) (hW : 2 * g.monitorRoom + (rest.map fun v => v.category).sum ≤ W9) (hdg : decode c.code g.pc = .ok (.invokevirtual index, 3))
    (hpre : ∀ vm₁, s.WarmedH vm₁ → Pre ⟨T.setVm vm₁, locs, cells, slots⟩ (Value.ref b :: argsL).toArray) :
    (∃ (v : Option Value) (vm₁ : Vm) (B : Pt), s.WarmedH vm₁ ∧ Stand p l e R s m args below meth c B.U B.locs B.cells B.slots ∧ Post ⟨T.setVm vm₁, locs, cells, slots⟩ (Value.ref b :: argsL).toArray v B ∧
      ∀ target, Steps p.tables e below (B.U.setTop { g with pc := g.pc + 3, stack := v.toList ++ rest }) target → Steps p.tables e below (T.setTop g) target) ∨
    (∃ (q : Addr) (vm₁ : Vm) (B : Pt), s.WarmedH vm₁ ∧ Stand p l e R s m args below meth c B.U B.locs B.cells B.slots ∧ PostX ⟨T.setVm vm₁, locs, cells, slots⟩ (Value.ref b :: argsL).toArray q B ∧
      Steps p.tables e below (T.setTop g) ((B.U.setTop { g with stack := rest }).pushFrame (.throwing q))) := by
  obtain ⟨mk, methM, hnamed, hmethM, hstM, habM⟩ := Cond.instanceMethod_spec hinst
  obtain ⟨m8, methM', cM, hn8, hmethM', -, -, -, -, -, -, hsigM⟩ := Cond.codeWith_spec hcode
  cases Option.some.inj (hn8.symm.trans hnamed)
  cases hmethM.symm.trans hmethM'
  obtain ⟨c2, r2, m2, q1, q2, q3, q4, kP, hkP, hkPi⟩ := Cond.selects_spec hsel
  cases hcls.symm.trans q1
  cases (State.methodFound?_of_named hnamed hy).symm.trans q2
  cases hnamed.symm.trans q3
  have hselP : selectMethod e.platform s.vm cellB.cls mk = .method mk := by rw [Launch.admits_selectMethod X.admits]; exact q4
  obtain ⟨vm₁, X₁, hstep₁⟩ := X.invokevirtual hexec hown hlink hnamed hmethM hstM hkP hkPi hy (a := b) (cell := cellB) hcell
    (fun z h => by rw [h] at hobj; cases hobj) hselP hmethM habM hkP hkPi (g := g) hg (argsL := argsL) (rest := rest) (hlen _ hsigM) hstack hdg
  rcases hK m meth c ⟨T.setVm vm₁, locs, cells, slots⟩ { g with stack := rest } (.invokevirtual index) mk (Value.ref b :: argsL).toArray X₁ hg hsize hdg hW (X₁.named hnamed) (hpre vm₁ X₁.warmed) with ⟨v, B, X', hpost, hsteps⟩ | ⟨q, B, X', hpost, hsteps⟩
  · exact Or.inl ⟨v, vm₁, B, X₁.warmed, X', hpost, fun target h => hstep₁ _ fun acts => by rw [doInvoke_state]; exact hsteps.trans h⟩
  · exact Or.inr ⟨q, vm₁, B, X₁.warmed, X', hpost, hstep₁ _ fun acts => by rw [doInvoke_state]; exact hsteps⟩
theorem vx_callSX (X : Stand p l e R s m args below meth c T locs cells slots) (hexec : p.tables.exec = Jvm.exec) {own : String} {index : Nat} {y : MethodName} {bytes : ByteArray} {maxL : Nat} {ret : Option FieldType} {hh : List (Nat × Nat × Nat × Nat)}
    (hown : s.vm.findClass own = some m.cls) (hlink : (Cond.methodLink own index y).before args s = true) (hstat : (Cond.static y).before args s = true) (hinit : (Cond.initialized y.cls).before args s = true)
    (hcode : (Cond.codeWith y bytes maxL ret hh).before args s = true) (hy : y.cls ≠ "java/lang/invoke/MethodHandle" ∧ y.cls ≠ "java/lang/invoke/VarHandle")
    {W9 : Nat} {Pre : Pt → Array Value → Prop} {Post : Pt → Array Value → Option Value → Pt → Prop} {PostX : Pt → Array Value → Addr → Pt → Prop} (hK : vx_Back l R p e below s args y 3 W9 Pre Post PostX)
    {g : JFrame} (hg : g.method = m) (hsize : g.locals.size = c.maxLocals) {argsL rest : List Value} (hlen : ∀ sig, parseMethodDescriptor y.desc = some sig → argsL.length = sig.parameters.length)
    (hstack : g.stack = argsL.reverse ++ rest) (hW : 2 * g.monitorRoom + (rest.map fun v => v.category).sum ≤ W9) (hdg : decode c.code g.pc = .ok (.invokestatic index, 3))
    (hpre : ∀ vm₁, s.WarmedH vm₁ → Pre ⟨T.setVm vm₁, locs, cells, slots⟩ argsL.toArray) :
    (∃ (v : Option Value) (vm₁ : Vm) (B : Pt), s.WarmedH vm₁ ∧ Stand p l e R s m args below meth c B.U B.locs B.cells B.slots ∧ Post ⟨T.setVm vm₁, locs, cells, slots⟩ argsL.toArray v B ∧
      ∀ target, Steps p.tables e below (B.U.setTop { g with pc := g.pc + 3, stack := v.toList ++ rest }) target → Steps p.tables e below (T.setTop g) target) ∨
    (∃ (q : Addr) (vm₁ : Vm) (B : Pt), s.WarmedH vm₁ ∧ Stand p l e R s m args below meth c B.U B.locs B.cells B.slots ∧ PostX ⟨T.setVm vm₁, locs, cells, slots⟩ argsL.toArray q B ∧
      Steps p.tables e below (T.setTop g) ((B.U.setTop { g with stack := rest }).pushFrame (.throwing q))) := by
  obtain ⟨mk, methM, cM, hnamed, hmethM, -, -, -, -, -, -, hsigM⟩ := Cond.codeWith_spec hcode
  have hstatic : methM.isStatic = true := Cond.static_spec hnamed hmethM hstat
  obtain ⟨kP, hkP, -⟩ := className_of_methodNamed hnamed
  have hinitP : kP.init = .initialized := Cond.initialized_spec (findClass_of_methodNamed hnamed) hkP hinit
  obtain ⟨vm₁, X₁, hstep₁⟩ := X.invokestatic hexec hown hlink hnamed hmethM hstatic hkP hinitP hy (g := g) hg (argsL := argsL) (rest := rest) (hlen _ hsigM) hstack hdg
  rcases hK m meth c ⟨T.setVm vm₁, locs, cells, slots⟩ { g with stack := rest } (.invokestatic index) mk argsL.toArray X₁ hg hsize hdg hW (X₁.named hnamed) (hpre vm₁ X₁.warmed) with ⟨v, B, X', hpost, hsteps⟩ | ⟨q, B, X', hpost, hsteps⟩
  · exact Or.inl ⟨v, vm₁, B, X₁.warmed, X', hpost, fun target h => hstep₁ _ fun acts => by rw [doInvoke_state]; exact hsteps.trans h⟩
  · exact Or.inr ⟨q, vm₁, B, X₁.warmed, X', hpost, hstep₁ _ fun acts => by rw [doInvoke_state]; exact hsteps⟩
theorem vx_callVW (X : Stand p l e R s m args below meth c T locs cells slots) (hexec : p.tables.exec = Jvm.exec) {own C : String} {index : Nat} {y : MethodName} {bytes : ByteArray} {maxL : Nat} {ret : Option FieldType} {hh : List (Nat × Nat × Nat × Nat)}
    (hown : s.vm.findClass own = some m.cls) (hlink : (Cond.methodLink own index y).before args s = true) (hinst : (Cond.instanceMethod y).before args s = true) (hsel : (Cond.selects C y y).before args s = true)
    (hcode : (Cond.codeWith y bytes maxL ret hh).before args s = true) (hy : y.cls ≠ "java/lang/invoke/MethodHandle" ∧ y.cls ≠ "java/lang/invoke/VarHandle")
    {W9 : Nat} {Pre : Pt → Array Value → Prop} {Post : Pt → Array Value → Option Value → Pt → Prop} (hK : Back l R p e below s args y 3 W9 Pre Post)
    {b : Addr} {cellB : Cell} (hcell : T.heap[b]? = some cellB) (hobj : cellB.vm.isStatics = false) (hcls : s.vm.findClass C = some cellB.cls)
    {g : JFrame} (hg : g.method = m) (hsize : g.locals.size = c.maxLocals) {argsL rest : List Value} (hlen : ∀ sig, parseMethodDescriptor y.desc = some sig → argsL.length = sig.parameters.length)
    (hstack : g.stack = argsL.reverse ++ .ref b :: rest) (hW : 2 * g.monitorRoom + (rest.map fun v => v.category).sum ≤ W9) (hdg : decode c.code g.pc = .ok (.invokevirtual index, 3))
    (hpre : ∀ vm₁, s.WarmedH vm₁ → Pre ⟨T.setVm vm₁, locs, cells, slots⟩ (Value.ref b :: argsL).toArray) :
    ∃ (v : Option Value) (vm₁ : Vm) (B : Pt), s.WarmedH vm₁ ∧ Stand p l e R s m args below meth c B.U B.locs B.cells B.slots ∧ Post ⟨T.setVm vm₁, locs, cells, slots⟩ (Value.ref b :: argsL).toArray v B ∧
      ∀ target, Steps p.tables e below (B.U.setTop { g with pc := g.pc + 3, stack := v.toList ++ rest }) target → Steps p.tables e below (T.setTop g) target := by
  obtain ⟨mk, methM, hnamed, hmethM, hstM, habM⟩ := Cond.instanceMethod_spec hinst
  obtain ⟨m8, methM', cM, hn8, hmethM', -, -, -, -, -, -, hsigM⟩ := Cond.codeWith_spec hcode
  cases Option.some.inj (hn8.symm.trans hnamed)
  cases hmethM.symm.trans hmethM'
  obtain ⟨c2, r2, m2, q1, q2, q3, q4, kP, hkP, hkPi⟩ := Cond.selects_spec hsel
  cases hcls.symm.trans q1
  cases (State.methodFound?_of_named hnamed hy).symm.trans q2
  cases hnamed.symm.trans q3
  have hselP : selectMethod e.platform s.vm cellB.cls mk = .method mk := by rw [Launch.admits_selectMethod X.admits]; exact q4
  obtain ⟨vm₁, X₁, hstep₁⟩ := X.invokevirtual hexec hown hlink hnamed hmethM hstM hkP hkPi hy (a := b) (cell := cellB) hcell
    (fun z h => by rw [h] at hobj; cases hobj) hselP hmethM habM hkP hkPi (g := g) hg (argsL := argsL) (rest := rest) (hlen _ hsigM) hstack hdg
  obtain ⟨v, B, X', hpost, hsteps⟩ := hK m meth c ⟨T.setVm vm₁, locs, cells, slots⟩ { g with stack := rest } (.invokevirtual index) mk (Value.ref b :: argsL).toArray X₁ hg hsize hdg hW (X₁.named hnamed) (hpre vm₁ X₁.warmed)
  exact ⟨v, vm₁, B, X₁.warmed, X', hpost, fun target h => hstep₁ _ fun acts => by rw [doInvoke_state]; exact hsteps.trans h⟩
abbrev vx_CVW (R : Room) (s : State) (args : Array Value) (own C : String) (index : Nat) (y : MethodName) (bytes : ByteArray) (maxL : Nat) (ret : Option FieldType) (hh : List (Nat × Nat × Nat × Nat)) (ws : List Cond) (rm : Room) (mc ms n : Nat) : Prop :=
  (rm.cells = mc ∧ rm.slots = ms ∧ rm.frames + 1 ≤ R.frames ∧ 8 + (maxL + 11) + rm.locals ≤ R.locals ∧ (∀ w ∈ ws, ∀ (a' : Array Value) (U : State), s.WarmedH U.vm → w.before a' U = true) ∧ Cond.codeWith y bytes maxL ret hh ∈ ws) ∧
  (Cond.codeWith y bytes maxL ret hh).before args s = true ∧ (Cond.initialized y.cls).before args s = true ∧ (y.cls ≠ "java/lang/invoke/MethodHandle" ∧ y.cls ≠ "java/lang/invoke/VarHandle") ∧
  (∀ sig, parseMethodDescriptor y.desc = some sig → n = sig.parameters.length) ∧ (Cond.methodLink own index y).before args s = true ∧ (Cond.instanceMethod y).before args s = true ∧ (Cond.selects C y y).before args s = true
theorem vx_cwVW {own C : String} {index maxL mc ms : Nat} {y : MethodName} {bytes : ByteArray} {ret : Option FieldType} {hh : List (Nat × Nat × Nat × Nat)} {Ts ws ws' : List Cond} {rm : Room} (n : Nat) (ht : ∀ w ∈ Ts, w.before args s = true) (hT : GoodIn Ts (wsV own index C y ws)) (hw : ws = Cond.codeWith y bytes maxL ret hh :: ws') (hrc : rm.cells = mc) (hrs : rm.slots = ms)
    (hd : y.cls = C ∧ y.cls ≠ "java/lang/invoke/MethodHandle" ∧ y.cls ≠ "java/lang/invoke/VarHandle" ∧ (parseMethodDescriptor y.desc).map (fun d => d.parameters.length) = some n) (hR : rm.frames + 1 ≤ R.frames ∧ 8 + (maxL + 11) + rm.locals ≤ R.locals) :
    vx_CVW R s args own C index y bytes maxL ret hh ws rm mc ms n := by
  obtain ⟨hC, hd⟩ := hd
  subst hC
  have ok : ∀ w ∈ wsV own index y.cls y ws, w.before args s = true := fun w h => ht w (hT w h).1
  have hG : GoodIn Ts ws := fun w h => hT w (by unfold wsV; exact List.mem_append_right _ h)
  have hc : Cond.codeWith y bytes maxL ret hh ∈ ws := by rw [hw]; exact List.mem_cons_self
  refine ⟨⟨hrc, hrs, hR.1, hR.2, pay_in ht hG, hc⟩, ht _ (hG _ hc).1, ok _ (by simp [wsV]), ⟨hd.1, hd.2.1⟩, fun sig h => ?_, ok _ (by simp [wsV]), ok _ (by simp [wsV]), ok _ (by simp [wsV])⟩
  have h2 := hd.2.2
  rw [h] at h2
  exact (Option.some.inj h2).symm
theorem vx_runVW {y : MethodName} {bytes cc : ByteArray} {maxL nL mc ms n index : Nat} {ret : Option FieldType} {hh : List (Nat × Nat × Nat × Nat)} {ws : List Cond} {rm : Room} {Pc : Array Value → State → Prop} {Qc : Array Value → State → Outcome → State → Prop} {free : Addr → Prop} {Ts : List Cond} {own C : String} {b : Addr} {As rest : List Value} {g : JFrame}
    (S : CallFix p m c cc nL s args Ts own) (hM : Met l y ws rm Pc Qc mc ms free) (cw : vx_CVW R s args own C index y bytes maxL ret hh ws rm mc ms n) (hp : PreV s H C b Pc As)
    (hg : g.method = m) (hn : As.length = n) (hsize : g.locals.size = nL) (hstack : g.stack = As.reverse ++ .ref b :: rest) (hW : 2 * g.monitorRoom + (rest.map fun v => v.category).sum ≤ 8) (hdg : decode cc g.pc = .ok (.invokevirtual index, 3)) (hf : cells + mc ≤ R.cells ∧ slots + ms ≤ R.slots) :
    va_Run p l e R s m args below meth c H locs cells slots mc ms g rest (Qc (Value.ref b :: As).toArray) free := by
  obtain ⟨⟨hrc, hrs, hfr, hlo, hws, hcw⟩, hcode, hini, hy, hlen, hl, hin, hse⟩ := cw
  have hK : Back l R p e below s args y 3 8 (PreOf R mc ms Pc) (PostOf Qc mc ms free) := va_backW (hh := hh) (bytes := bytes) (maxL := maxL) (ret := ret) hM hp.1 hrc hrs hfr hlo hws hcw (fun a' U hW => word_at hW (Or.inl (by first | rfl | simp [Cond.onTables, Cond.keeps, Cond.steady])) hini)
  obtain ⟨hx, hb, hml, ho, -⟩ := S
  obtain ⟨-, ⟨cellB, hcB, hoB, hclB⟩, hPc⟩ := hp
  intro T hT X
  obtain ⟨v, vm₁, ⟨U', l2, c2, s2⟩, hW₁, X', ⟨g', mk, t, L, e1, e2, hq, h1, hL, h2, h3⟩, st⟩ := vx_callVW X hx (C := C) (hh := hh) (bytes := bytes) (maxL := maxL) (ret := ret) ho hl hin hse hcode hy hK (by rw [hT]; exact hcB) hoB hclB hg (hsize.trans hml.symm) (argsL := As) (rest := rest) (fun sig h => hn.trans (hlen sig h)) hstack hW (by rw [hb]; exact hdg)
    (fun vm₁ hW₁ => ⟨hf.1, hf.2, hPc (T.setVm vm₁) hT hW₁⟩)
  dsimp only [Pt.U, Pt.locs, Pt.cells, Pt.slots] at X' e1 e2 h1 h2 h3 st
  subst h1; subst h2; subst h3
  exact ⟨v, (T.setVm vm₁).calling g' mk (Value.ref b :: As).toArray, t, U', L, hT, X', hL, e1, e2, hq, st⟩
section
variable {y : MethodName} {bytes cc : ByteArray} {maxL nL mc ms n index : Nat} {ret : Option FieldType} {ws : List Cond} {rm : Room} {Pc : Array Value → State → Prop} {Qc : Array Value → State → Outcome → State → Prop} {XC : String → State → State → Prop} {free : Addr → Prop} {Ts : List Cond} {own C : String} {b : Addr} {As rest : List Value} {g : JFrame}
theorem vx_runVX {hh : List (Nat × Nat × Nat × Nat)} (S : CallFix p m c cc nL s args Ts own) (hM : vx_Met l y ws rm Pc Qc XC mc ms free) (cw : vx_CVW R s args own C index y bytes maxL ret hh ws rm mc ms n) (hp : PreV s H C b Pc As)
    (hg : g.method = m) (hn : As.length = n) (hsize : g.locals.size = nL) (hstack : g.stack = As.reverse ++ .ref b :: rest) (hW : 2 * g.monitorRoom + (rest.map fun v => v.category).sum ≤ 8) (hdg : decode cc g.pc = .ok (.invokevirtual index, 3)) (hf : cells + mc ≤ R.cells ∧ slots + ms ≤ R.slots) :
    vx_Run p l e R s m args below meth c H locs cells slots mc ms g rest (Qc (Value.ref b :: As).toArray) XC free := by
  obtain ⟨⟨hrc, hrs, hfr, hlo, hws, hcw⟩, hcode, hini, hy, hlen, hl, hin, hse⟩ := cw
  have hK : vx_Back l R p e below s args y 3 8 (PreOf R mc ms Pc) (PostOf Qc mc ms free) (vx_Post XC mc ms free) := vx_backW (hh := hh) (bytes := bytes) (maxL := maxL) (ret := ret) hM hp.1 hrc hrs hfr hlo hws hcw (fun a' U hW => word_at hW (Or.inl (by first | rfl | simp [Cond.onTables, Cond.keeps, Cond.steady])) hini)
  obtain ⟨hx, hb, hml, ho, -⟩ := S
  obtain ⟨-, ⟨cellB, hcB, hoB, hclB⟩, hPc⟩ := hp
  intro T hT X
  rcases vx_callVX X hx (C := C) (hh := hh) (bytes := bytes) (maxL := maxL) (ret := ret) ho hl hin hse hcode hy hK (by rw [hT]; exact hcB) hoB hclB hg (hsize.trans hml.symm) (argsL := As) (rest := rest) (fun sig h => hn.trans (hlen sig h)) hstack hW (by rw [hb]; exact hdg)
    (fun vm₁ hW₁ => ⟨hf.1, hf.2, hPc (T.setVm vm₁) hT hW₁⟩) with ⟨v, vm₁, ⟨U', l2, c2, s2⟩, hW₁, X', ⟨g', mk, t, L, e1, e2, hq, h1, hL, h2, h3⟩, st⟩ | ⟨q, vm₁, ⟨U', l2, c2, s2⟩, hW₁, X', ⟨g', mk, t, L, E, ce, e1, e2, hq, hce, hcv, hcl, h1, hL, h2, h3⟩, st⟩
  · dsimp only [Pt.U, Pt.locs, Pt.cells, Pt.slots] at X' e1 e2 h1 h2 h3 st
    subst h1; subst h2; subst h3
    exact Or.inl ⟨v, (T.setVm vm₁).calling g' mk (Value.ref b :: As).toArray, t, U', L, hT, X', hL, e1, e2, hq, st⟩
  · dsimp only [Pt.U, Pt.locs, Pt.cells, Pt.slots] at X' e1 e2 h1 h2 h3 st hcl
    subst h1; subst h2; subst h3
    exact Or.inr ⟨q, (T.setVm vm₁).calling g' mk (Value.ref b :: As).toArray, t, U', L, E, ce, hT, X', hL, e1, e2, hq, hce, hcv, vx_cls hW₁ hcl, st⟩
theorem vx_runSX {hh : List (Nat × Nat × Nat × Nat)} (S : CallFix p m c cc nL s args Ts own) (hM : vx_Met l y ws rm Pc Qc XC mc ms free) (cw : vx_CSW R s args own index y bytes maxL ret hh ws rm mc ms n) (hp : PreS s H Pc As)
    (hg : g.method = m) (hn : As.length = n) (hsize : g.locals.size = nL) (hstack : g.stack = As.reverse ++ rest) (hW : 2 * g.monitorRoom + (rest.map fun v => v.category).sum ≤ 8) (hdg : decode cc g.pc = .ok (.invokestatic index, 3)) (hf : cells + mc ≤ R.cells ∧ slots + ms ≤ R.slots) :
    vx_Run p l e R s m args below meth c H locs cells slots mc ms g rest (Qc As.toArray) XC free := by
  obtain ⟨⟨hrc, hrs, hfr, hlo, hws, hcw⟩, hcode, hini, hy, hlen, hl, hstt⟩ := cw
  have hK : vx_Back l R p e below s args y 3 8 (PreOf R mc ms Pc) (PostOf Qc mc ms free) (vx_Post XC mc ms free) := vx_backW (hh := hh) (bytes := bytes) (maxL := maxL) (ret := ret) hM hp.1 hrc hrs hfr hlo hws hcw (fun a' U hW => word_at hW (Or.inl (by first | rfl | simp [Cond.onTables, Cond.keeps, Cond.steady])) hini)
  obtain ⟨hx, hb, hml, ho, -⟩ := S
  intro T hT X
  rcases vx_callSX X hx (hh := hh) (bytes := bytes) (maxL := maxL) (ret := ret) ho hl hstt hini hcode hy hK hg (hsize.trans hml.symm) (argsL := As) (rest := rest) (fun sig h => hn.trans (hlen sig h)) hstack hW (by rw [hb]; exact hdg)
    (fun vm₁ hW₁ => ⟨hf.1, hf.2, hp.2 (T.setVm vm₁) hT hW₁⟩) with ⟨v, vm₁, ⟨U', l2, c2, s2⟩, hW₁, X', ⟨g', mk, t, L, e1, e2, hq, h1, hL, h2, h3⟩, st⟩ | ⟨q, vm₁, ⟨U', l2, c2, s2⟩, hW₁, X', ⟨g', mk, t, L, E, ce, e1, e2, hq, hce, hcv, hcl, h1, hL, h2, h3⟩, st⟩
  · dsimp only [Pt.U, Pt.locs, Pt.cells, Pt.slots] at X' e1 e2 h1 h2 h3 st
    subst h1; subst h2; subst h3
    exact Or.inl ⟨v, (T.setVm vm₁).calling g' mk As.toArray, t, U', L, hT, X', hL, e1, e2, hq, st⟩
  · dsimp only [Pt.U, Pt.locs, Pt.cells, Pt.slots] at X' e1 e2 h1 h2 h3 st hcl
    subst h1; subst h2; subst h3
    exact Or.inr ⟨q, (T.setVm vm₁).calling g' mk As.toArray, t, U', L, E, ce, hT, X', hL, e1, e2, hq, hce, hcv, vx_cls hW₁ hcl, st⟩
end
end VXH
theorem vx_ofWH {l : Launch} {y : MethodName} {ws ws' : List Cond} {rm : Room} {Pc : Array Value → State → Prop} {Qc : Array Value → State → Outcome → State → Prop} {XC : String → State → State → Prop} {mc ms : Nat} {free : Addr → Prop} {cc : ByteArray} {maxL : Nat} {ret : Option FieldType} {hh : List (Nat × Nat × Nat × Nat)}
    (hy : plainName y.cls = true) (hw : ws = Cond.codeWith y cc maxL ret hh :: ws')
    (body : ∀ p e s m args below meth c s₁, BodyLoose p l y (headSpec ws rm) cc maxL ret e s m args below meth c s₁ → c.maxLocals = maxL → Pc args s →
      W p l e (headSpec ws rm).room s m args below meth c s.heap [] 0 0 (vx_MQ below Qc XC args s mc ms free) (entryFrame m args maxL)) : vx_Met l y ws rm Pc Qc XC mc ms free := by
  refine MetFree.of_bodyS (code := cc) (maxLocals := maxL) (ret := ret) hy ?_ ?_
  · intro args s m h hn
    obtain ⟨m9, meth, c, hn9, h1, h2, h3, h4, -, h5, h6, -⟩ := Cond.codeWith_spec (atoms_spec (ws := ws) h _ (by rw [hw]; exact List.mem_cons_self))
    cases hn.symm.trans hn9
    exact ⟨meth, c, h1, h2, h3, h4, h5, h6⟩
  · intro p e s m args below meth c s₁ B hml hP _
    have hh0 : s₁.heap = s.heap := by rw [B.state]; rfl
    obtain ⟨t, a1, o, b1, b2, b3⟩ := body p e s m args below meth c s₁ B hml hP s₁ hh0 (Stand.of_body B)
    exact ⟨t, o, a1, b1, b2, b3⟩
/-! ===== END ===== -/
end
section
def RX0 : String := "DictationBelt$OrderText"
def TX0 : u_T := fun k => match k with
  | 0 => ("DictationBelt$OrderText", "codes", "[I", true)
  | _ => ("DictationBelt$OrderText", "length", "I", false)
def tyX0 : Nat → FieldType := fun k => match k with
  | 0 => .array .int
  | _ => .int
abbrev wsX00 : List Cond := u_ws RX0 TX0 2
theorem nmX0 : ∀ a, a < 2 → ∀ b, b < 2 → a ≠ b → (TX0 a).2.1 ≠ (TX0 b).2.1 := by decide +kernel
theorem tyX0_ok : ∀ k, k < 2 → parseFieldDescriptor (TX0 k).2.2.1 = some (tyX0 k) := by decide +kernel
abbrev cX0_init : ByteArray := prog_2_method_1_code
def yX0_init : MethodName := ⟨RX0, "<init>", "()V"⟩
abbrev cX0_add : ByteArray := prog_2_method_2_code
def yX0_add : MethodName := ⟨RX0, "add", "(I)V"⟩
abbrev cX0_errorIndex : ByteArray := prog_2_method_3_code
def yX0_errorIndex : MethodName := ⟨RX0, "errorIndex", "()I"⟩
abbrev cX0_isComplete : ByteArray := prog_2_method_4_code
def yX0_isComplete : MethodName := ⟨RX0, "isComplete", "()Z"⟩
abbrev cX0_stageAfter : ByteArray := prog_2_method_5_code
def yX0_stageAfter : MethodName := ⟨RX0, "stageAfter", "(II)I"⟩
abbrev cX0_stageAfterLetter : ByteArray := prog_2_method_6_code
def yX0_stageAfterLetter : MethodName := ⟨RX0, "stageAfterLetter", "(I)I"⟩
abbrev cX0_stageAfterFirstOfTimes : ByteArray := prog_2_method_7_code
def yX0_stageAfterFirstOfTimes : MethodName := ⟨RX0, "stageAfterFirstOfTimes", "(I)I"⟩
abbrev cX0_isIn : ByteArray := prog_2_method_8_code
def yX0_isIn : MethodName := ⟨RX0, "isIn", "(III)Z"⟩
def RX1 : String := "DictationBelt$State"
def TX1 : u_T := fun k => match k with
  | 0 => ("DictationBelt$State", "owners", "[I", true)
  | 1 => ("DictationBelt$State", "sounds", "[I", true)
  | 2 => ("DictationBelt$State", "carbons", "[I", true)
  | 3 => ("DictationBelt$State", "order", "[I", true)
  | 4 => ("DictationBelt$State", "used", "I", false)
  | 5 => ("DictationBelt$State", "flags", "[I", true)
  | 6 => ("DictationBelt$State", "losses", "[I", true)
  | 7 => ("DictationBelt$State", "count", "I", false)
  | 8 => ("DictationBelt$State", "isRunning", "Z", false)
  | 9 => ("DictationBelt$State", "head", "I", false)
  | 10 => ("DictationBelt$State", "spoken", "I", false)
  | 11 => ("DictationBelt$State", "gone", "I", false)
  | 12 => ("DictationBelt$State", "player", "I", false)
  | _ => ("DictationBelt$State", "place", "I", false)
def tyX1 : Nat → FieldType := fun k => match k with
  | 0 => .array .int
  | 1 => .array .int
  | 2 => .array .int
  | 3 => .array .int
  | 4 => .int
  | 5 => .array .int
  | 6 => .array .int
  | 7 => .int
  | 8 => .boolean
  | 9 => .int
  | 10 => .int
  | 11 => .int
  | 12 => .int
  | _ => .int
abbrev wsX10 : List Cond := u_ws RX1 TX1 14
theorem nmX1 : ∀ a, a < 14 → ∀ b, b < 14 → a ≠ b → (TX1 a).2.1 ≠ (TX1 b).2.1 := by decide +kernel
theorem tyX1_ok : ∀ k, k < 14 → parseFieldDescriptor (TX1 k).2.2.1 = some (tyX1 k) := by decide +kernel
abbrev cX1_init : ByteArray := prog_3_method_1_code
def yX1_init : MethodName := ⟨RX1, "<init>", "()V"⟩
abbrev cX1_copyFrom : ByteArray := prog_3_method_2_code
def yX1_copyFrom : MethodName := ⟨RX1, "copyFrom", "(LDictationBelt$State;)V"⟩
abbrev cX1_isRecording : ByteArray := prog_3_method_3_code
def yX1_isRecording : MethodName := ⟨RX1, "isRecording", "(I)Z"⟩
abbrev cX1_runningNumber : ByteArray := prog_3_method_4_code
def yX1_runningNumber : MethodName := ⟨RX1, "runningNumber", "()I"⟩
abbrev cX1_isFlagged : ByteArray := prog_3_method_5_code
def yX1_isFlagged : MethodName := ⟨RX1, "isFlagged", "(I)Z"⟩
abbrev cX1_putFlag : ByteArray := prog_3_method_6_code
def yX1_putFlag : MethodName := ⟨RX1, "putFlag", "(IZ)V"⟩
abbrev cX1_cellCount : ByteArray := prog_3_method_7_code
def yX1_cellCount : MethodName := ⟨RX1, "cellCount", "(I)I"⟩
abbrev cX1_cellAt : ByteArray := prog_3_method_8_code
def yX1_cellAt : MethodName := ⟨RX1, "cellAt", "(II)I"⟩
abbrev cX1_mayBegin : ByteArray := prog_3_method_9_code
def yX1_mayBegin : MethodName := ⟨RX1, "mayBegin", "()Z"⟩
abbrev cX1_beginRecording : ByteArray := prog_3_method_10_code
def yX1_beginRecording : MethodName := ⟨RX1, "beginRecording", "()I"⟩
abbrev cX1_stopRecording : ByteArray := prog_3_method_11_code
def yX1_stopRecording : MethodName := ⟨RX1, "stopRecording", "()I"⟩
abbrev cX1_eraseRecording : ByteArray := prog_3_method_12_code
def yX1_eraseRecording : MethodName := ⟨RX1, "eraseRecording", "(I)I"⟩
abbrev cX1_removeRecording : ByteArray := prog_3_method_13_code
def yX1_removeRecording : MethodName := ⟨RX1, "removeRecording", "(I)V"⟩
abbrev cX1_dropFreeCells : ByteArray := prog_3_method_14_code
def yX1_dropFreeCells : MethodName := ⟨RX1, "dropFreeCells", "()V"⟩
abbrev cX1_cellFromHead : ByteArray := prog_3_method_15_code
def yX1_cellFromHead : MethodName := ⟨RX1, "cellFromHead", "(I)I"⟩
abbrev cX1_isWritable : ByteArray := prog_3_method_16_code
def yX1_isWritable : MethodName := ⟨RX1, "isWritable", "(I)Z"⟩
abbrev cX1_writableCells : ByteArray := prog_3_method_17_code
def yX1_writableCells : MethodName := ⟨RX1, "writableCells", "()I"⟩
abbrev cX1_firstWritable : ByteArray := prog_3_method_18_code
def yX1_firstWritable : MethodName := ⟨RX1, "firstWritable", "()I"⟩
abbrev cX1_firstLoser : ByteArray := prog_3_method_19_code
def yX1_firstLoser : MethodName := ⟨RX1, "firstLoser", "()I"⟩
abbrev cX1_lossAfter : ByteArray := prog_3_method_20_code
def yX1_lossAfter : MethodName := ⟨RX1, "lossAfter", "(II)I"⟩
abbrev cX1_maySpeak : ByteArray := prog_3_method_21_code
def yX1_maySpeak : MethodName := ⟨RX1, "maySpeak", "(I)Z"⟩
abbrev cX1_speakTimes : ByteArray := prog_3_method_22_code
def yX1_speakTimes : MethodName := ⟨RX1, "speakTimes", "(II)I"⟩
abbrev cX1_loseCell : ByteArray := prog_3_method_23_code
def yX1_loseCell : MethodName := ⟨RX1, "loseCell", "(I)V"⟩
abbrev cX1_cellsBefore : ByteArray := prog_3_method_24_code
def yX1_cellsBefore : MethodName := ⟨RX1, "cellsBefore", "(I)I"⟩
abbrev cX1_writeCell : ByteArray := prog_3_method_25_code
def yX1_writeCell : MethodName := ⟨RX1, "writeCell", "(II)V"⟩
abbrev cX1_bringPlayer : ByteArray := prog_3_method_26_code
def yX1_bringPlayer : MethodName := ⟨RX1, "bringPlayer", "(I)V"⟩
abbrev cX1_playCell : ByteArray := prog_3_method_27_code
def yX1_playCell : MethodName := ⟨RX1, "playCell", "()I"⟩
abbrev cX1_stepBack : ByteArray := prog_3_method_28_code
def yX1_stepBack : MethodName := ⟨RX1, "stepBack", "(I)I"⟩
abbrev cX1_correctedCells : ByteArray := prog_3_method_29_code
def yX1_correctedCells : MethodName := ⟨RX1, "correctedCells", "()I"⟩
def RX2 : String := "DictationBelt"
def TX2 : u_T := fun k => match k with
  | 0 => ("DictationBelt", "now", "LDictationBelt$State;", true)
  | 1 => ("DictationBelt", "saved", "[LDictationBelt$State;", true)
  | 2 => ("DictationBelt", "nextSlot", "I", false)
  | 3 => ("DictationBelt", "savedCount", "I", false)
  | _ => ("DictationBelt", "text", "LDictationBelt$OrderText;", true)
def tyX2 : Nat → FieldType := fun k => match k with
  | 0 => .object "DictationBelt$State"
  | 1 => .array (.object "DictationBelt$State")
  | 2 => .int
  | 3 => .int
  | _ => .object "DictationBelt$OrderText"
abbrev wsX20 : List Cond := u_ws RX2 TX2 5
theorem nmX2 : ∀ a, a < 5 → ∀ b, b < 5 → a ≠ b → (TX2 a).2.1 ≠ (TX2 b).2.1 := by decide +kernel
theorem tyX2_ok : ∀ k, k < 5 → parseFieldDescriptor (TX2 k).2.2.1 = some (tyX2 k) := by decide +kernel
abbrev cX2_init : ByteArray := prog_1_method_1_code
def yX2_init : MethodName := ⟨RX2, "<init>", "()V"⟩
abbrev cX2_begin : ByteArray := prog_1_method_2_code
def yX2_begin : MethodName := ⟨RX2, "begin", "()I"⟩
abbrev cX2_halt : ByteArray := prog_1_method_3_code
def yX2_halt : MethodName := ⟨RX2, "halt", "()I"⟩
abbrev cX2_speak : ByteArray := prog_1_method_4_code
def yX2_speak : MethodName := ⟨RX2, "speak", "(I)I"⟩
abbrev cX2_setFlag : ByteArray := prog_1_method_5_code
def yX2_setFlag : MethodName := ⟨RX2, "setFlag", "(IZ)Z"⟩
abbrev cX2_erase : ByteArray := prog_1_method_6_code
def yX2_erase : MethodName := ⟨RX2, "erase", "(I)I"⟩
abbrev cX2_moveHead : ByteArray := prog_1_method_7_code
def yX2_moveHead : MethodName := ⟨RX2, "moveHead", "(I)I"⟩
abbrev cX2_recordings : ByteArray := prog_1_method_8_code
def yX2_recordings : MethodName := ⟨RX2, "recordings", "()I"⟩
abbrev cX2_running : ByteArray := prog_1_method_9_code
def yX2_running : MethodName := ⟨RX2, "running", "()I"⟩
abbrev cX2_head : ByteArray := prog_1_method_10_code
def yX2_head : MethodName := ⟨RX2, "head", "()I"⟩
abbrev cX2_length : ByteArray := prog_1_method_11_code
def yX2_length : MethodName := ⟨RX2, "length", "(I)I"⟩
abbrev cX2_sound : ByteArray := prog_1_method_12_code
def yX2_sound : MethodName := ⟨RX2, "sound", "(II)I"⟩
abbrev cX2_cellOf : ByteArray := prog_1_method_13_code
def yX2_cellOf : MethodName := ⟨RX2, "cellOf", "(II)I"⟩
abbrev cX2_hasFlag : ByteArray := prog_1_method_14_code
def yX2_hasFlag : MethodName := ⟨RX2, "hasFlag", "(I)Z"⟩
abbrev cX2_lost : ByteArray := prog_1_method_15_code
def yX2_lost : MethodName := ⟨RX2, "lost", "(I)I"⟩
abbrev cX2_owner : ByteArray := prog_1_method_16_code
def yX2_owner : MethodName := ⟨RX2, "owner", "(I)I"⟩
abbrev cX2_free : ByteArray := prog_1_method_17_code
def yX2_free : MethodName := ⟨RX2, "free", "()I"⟩
abbrev cX2_spoken : ByteArray := prog_1_method_18_code
def yX2_spoken : MethodName := ⟨RX2, "spoken", "()I"⟩
abbrev cX2_gone : ByteArray := prog_1_method_19_code
def yX2_gone : MethodName := ⟨RX2, "gone", "()I"⟩
abbrev cX2_usedShare : ByteArray := prog_1_method_20_code
def yX2_usedShare : MethodName := ⟨RX2, "usedShare", "()D"⟩
abbrev cX2_go : ByteArray := prog_1_method_21_code
def yX2_go : MethodName := ⟨RX2, "go", "(I)I"⟩
abbrev cX2_play : ByteArray := prog_1_method_22_code
def yX2_play : MethodName := ⟨RX2, "play", "()I"⟩
abbrev cX2_back : ByteArray := prog_1_method_23_code
def yX2_back : MethodName := ⟨RX2, "back", "(I)I"⟩
abbrev cX2_playing : ByteArray := prog_1_method_24_code
def yX2_playing : MethodName := ⟨RX2, "playing", "()I"⟩
abbrev cX2_place : ByteArray := prog_1_method_25_code
def yX2_place : MethodName := ⟨RX2, "place", "()I"⟩
abbrev cX2_correct : ByteArray := prog_1_method_26_code
def yX2_correct : MethodName := ⟨RX2, "correct", "(III)I"⟩
abbrev cX2_carbon : ByteArray := prog_1_method_27_code
def yX2_carbon : MethodName := ⟨RX2, "carbon", "(II)I"⟩
abbrev cX2_corrected : ByteArray := prog_1_method_28_code
def yX2_corrected : MethodName := ⟨RX2, "corrected", "()I"⟩
abbrev cX2_room : ByteArray := prog_1_method_29_code
def yX2_room : MethodName := ⟨RX2, "room", "()I"⟩
abbrev cX2_nextLoser : ByteArray := prog_1_method_30_code
def yX2_nextLoser : MethodName := ⟨RX2, "nextLoser", "()I"⟩
abbrev cX2_lossOf : ByteArray := prog_1_method_31_code
def yX2_lossOf : MethodName := ⟨RX2, "lossOf", "(II)I"⟩
abbrev cX2_goneAfter : ByteArray := prog_1_method_32_code
def yX2_goneAfter : MethodName := ⟨RX2, "goneAfter", "(I)I"⟩
abbrev cX2_append : ByteArray := prog_1_method_33_code
def yX2_append : MethodName := ⟨RX2, "append", "(I)I"⟩
abbrev cX2_clearText : ByteArray := prog_1_method_34_code
def yX2_clearText : MethodName := ⟨RX2, "clearText", "()I"⟩
abbrev cX2_firstError : ByteArray := prog_1_method_35_code
def yX2_firstError : MethodName := ⟨RX2, "firstError", "()I"⟩
abbrev cX2_run : ByteArray := prog_1_method_36_code
def yX2_run : MethodName := ⟨RX2, "run", "()I"⟩
abbrev cX2_undo : ByteArray := prog_1_method_37_code
def yX2_undo : MethodName := ⟨RX2, "undo", "()I"⟩
abbrev cX2_savedStates : ByteArray := prog_1_method_38_code
def yX2_savedStates : MethodName := ⟨RX2, "savedStates", "()I"⟩
abbrev cX2_digest : ByteArray := prog_1_method_39_code
def yX2_digest : MethodName := ⟨RX2, "digest", "()J"⟩
abbrev cX2_withRecording : ByteArray := prog_1_method_40_code
def yX2_withRecording : MethodName := ⟨RX2, "withRecording", "(JI)J"⟩
abbrev cX2_mixed : ByteArray := prog_1_method_41_code
def yX2_mixed : MethodName := ⟨RX2, "mixed", "(JJ)J"⟩
abbrev cX2_save : ByteArray := prog_1_method_42_code
def yX2_save : MethodName := ⟨RX2, "save", "()V"⟩
abbrev cX2_slotAt : ByteArray := prog_1_method_43_code
def yX2_slotAt : MethodName := ⟨RX2, "slotAt", "(I)LDictationBelt$State;"⟩
abbrev cX2_obeyOrders : ByteArray := prog_1_method_44_code
def yX2_obeyOrders : MethodName := ⟨RX2, "obeyOrders", "()I"⟩
abbrev cX2_mayObey : ByteArray := prog_1_method_45_code
def yX2_mayObey : MethodName := ⟨RX2, "mayObey", "(III)Z"⟩
abbrev cX2_obey : ByteArray := prog_1_method_46_code
def yX2_obey : MethodName := ⟨RX2, "obey", "(III)V"⟩
abbrev cX2_requireRecording : ByteArray := prog_1_method_47_code
def yX2_requireRecording : MethodName := ⟨RX2, "requireRecording", "(I)V"⟩
abbrev cX2_requirePlace : ByteArray := prog_1_method_48_code
def yX2_requirePlace : MethodName := ⟨RX2, "requirePlace", "(II)V"⟩
abbrev cX2_requirePlayer : ByteArray := prog_1_method_49_code
def yX2_requirePlayer : MethodName := ⟨RX2, "requirePlayer", "()V"⟩
abbrev cX2_requireCell : ByteArray := prog_1_method_50_code
def yX2_requireCell : MethodName := ⟨RX2, "requireCell", "(I)V"⟩
abbrev cX2_requireSound : ByteArray := prog_1_method_51_code
def yX2_requireSound : MethodName := ⟨RX2, "requireSound", "(I)V"⟩
abbrev cX2_requireForecast : ByteArray := prog_1_method_52_code
def yX2_requireForecast : MethodName := ⟨RX2, "requireForecast", "(I)V"⟩
abbrev cX2_valueAt : ByteArray := prog_1_method_53_code
def yX2_valueAt : MethodName := ⟨RX2, "valueAt", "([II)I"⟩
abbrev cX2_putAt : ByteArray := prog_1_method_54_code
def yX2_putAt : MethodName := ⟨RX2, "putAt", "([III)V"⟩
def RX3 : String := "DictationBeltModel"
def TX3 : u_T := fun k => match k with
  | 0 => ("DictationBeltModel", "thrown", "I", false)
  | 1 => ("DictationBeltModel", "s", "[I", true)
  | 2 => ("DictationBeltModel", "saved", "I", false)
  | 3 => ("DictationBeltModel", "text", "[I", true)
  | 4 => ("DictationBeltModel", "length", "I", false)
  | 5 => ("DictationBeltModel", "at", "I", false)
  | 6 => ("DictationBeltModel", "letter", "I", false)
  | 7 => ("DictationBeltModel", "first", "I", false)
  | 8 => ("DictationBeltModel", "second", "I", false)
  | _ => ("DictationBeltModel", "hash", "J", false)
def tyX3 : Nat → FieldType := fun k => match k with
  | 0 => .int
  | 1 => .array .int
  | 2 => .int
  | 3 => .array .int
  | 4 => .int
  | 5 => .int
  | 6 => .int
  | 7 => .int
  | 8 => .int
  | _ => .long
abbrev wsX30 : List Cond := u_ws RX3 TX3 10
theorem nmX3 : ∀ a, a < 10 → ∀ b, b < 10 → a ≠ b → (TX3 a).2.1 ≠ (TX3 b).2.1 := by decide +kernel
theorem tyX3_ok : ∀ k, k < 10 → parseFieldDescriptor (TX3 k).2.2.1 = some (tyX3 k) := by decide +kernel
abbrev cX3_init : ByteArray := prog_5_method_1_code
def yX3_init : MethodName := ⟨RX3, "<init>", "()V"⟩
abbrev cX3_thrown : ByteArray := prog_5_method_2_code
def yX3_thrown : MethodName := ⟨RX3, "thrown", "()I"⟩
abbrev cX3_in : ByteArray := prog_5_method_3_code
def yX3_in : MethodName := ⟨RX3, "in", "(III)Z"⟩
abbrev cX3_holds : ByteArray := prog_5_method_4_code
def yX3_holds : MethodName := ⟨RX3, "holds", "(I)Z"⟩
abbrev cX3_told : ByteArray := prog_5_method_5_code
def yX3_told : MethodName := ⟨RX3, "told", "(I)I"⟩
abbrev cX3_isRecording : ByteArray := prog_5_method_6_code
def yX3_isRecording : MethodName := ⟨RX3, "isRecording", "(I)Z"⟩
abbrev cX3_isCell : ByteArray := prog_5_method_7_code
def yX3_isCell : MethodName := ⟨RX3, "isCell", "(I)Z"⟩
abbrev cX3_cells : ByteArray := prog_5_method_8_code
def yX3_cells : MethodName := ⟨RX3, "cells", "(I)I"⟩
abbrev cX3_placeOf : ByteArray := prog_5_method_9_code
def yX3_placeOf : MethodName := ⟨RX3, "placeOf", "(I)I"⟩
abbrev cX3_cellAt : ByteArray := prog_5_method_10_code
def yX3_cellAt : MethodName := ⟨RX3, "cellAt", "(II)I"⟩
abbrev cX3_isWritable : ByteArray := prog_5_method_11_code
def yX3_isWritable : MethodName := ⟨RX3, "isWritable", "(I)Z"⟩
abbrev cX3_writable : ByteArray := prog_5_method_12_code
def yX3_writable : MethodName := ⟨RX3, "writable", "()I"⟩
abbrev cX3_leaves : ByteArray := prog_5_method_13_code
def yX3_leaves : MethodName := ⟨RX3, "leaves", "(I)V"⟩
abbrev cX3_loses : ByteArray := prog_5_method_14_code
def yX3_loses : MethodName := ⟨RX3, "loses", "(I)V"⟩
abbrev cX3_speaks : ByteArray := prog_5_method_15_code
def yX3_speaks : MethodName := ⟨RX3, "speaks", "(I)I"⟩
abbrev cX3_halts : ByteArray := prog_5_method_16_code
def yX3_halts : MethodName := ⟨RX3, "halts", "()I"⟩
abbrev cX3_begins : ByteArray := prog_5_method_17_code
def yX3_begins : MethodName := ⟨RX3, "begins", "()I"⟩
abbrev cX3_canBegin : ByteArray := prog_5_method_18_code
def yX3_canBegin : MethodName := ⟨RX3, "canBegin", "()Z"⟩
abbrev cX3_canSpeak : ByteArray := prog_5_method_19_code
def yX3_canSpeak : MethodName := ⟨RX3, "canSpeak", "(I)Z"⟩
abbrev cX3_goes : ByteArray := prog_5_method_20_code
def yX3_goes : MethodName := ⟨RX3, "goes", "(I)I"⟩
abbrev cX3_plays : ByteArray := prog_5_method_21_code
def yX3_plays : MethodName := ⟨RX3, "plays", "()I"⟩
abbrev cX3_goesBack : ByteArray := prog_5_method_22_code
def yX3_goesBack : MethodName := ⟨RX3, "goesBack", "(I)I"⟩
abbrev cX3_copies : ByteArray := prog_5_method_23_code
def yX3_copies : MethodName := ⟨RX3, "copies", "(II)V"⟩
abbrev cX3_save : ByteArray := prog_5_method_24_code
def yX3_save : MethodName := ⟨RX3, "save", "()V"⟩
abbrev cX3_begin : ByteArray := prog_5_method_25_code
def yX3_begin : MethodName := ⟨RX3, "begin", "()I"⟩
abbrev cX3_halt : ByteArray := prog_5_method_26_code
def yX3_halt : MethodName := ⟨RX3, "halt", "()I"⟩
abbrev cX3_isSound : ByteArray := prog_5_method_27_code
def yX3_isSound : MethodName := ⟨RX3, "isSound", "(I)Z"⟩
abbrev cX3_speak : ByteArray := prog_5_method_28_code
def yX3_speak : MethodName := ⟨RX3, "speak", "(I)I"⟩
abbrev cX3_setFlag : ByteArray := prog_5_method_29_code
def yX3_setFlag : MethodName := ⟨RX3, "setFlag", "(IZ)Z"⟩
abbrev cX3_erase : ByteArray := prog_5_method_30_code
def yX3_erase : MethodName := ⟨RX3, "erase", "(I)I"⟩
abbrev cX3_moveHead : ByteArray := prog_5_method_31_code
def yX3_moveHead : MethodName := ⟨RX3, "moveHead", "(I)I"⟩
abbrev cX3_recordings : ByteArray := prog_5_method_32_code
def yX3_recordings : MethodName := ⟨RX3, "recordings", "()I"⟩
abbrev cX3_running : ByteArray := prog_5_method_33_code
def yX3_running : MethodName := ⟨RX3, "running", "()I"⟩
abbrev cX3_head : ByteArray := prog_5_method_34_code
def yX3_head : MethodName := ⟨RX3, "head", "()I"⟩
abbrev cX3_length : ByteArray := prog_5_method_35_code
def yX3_length : MethodName := ⟨RX3, "length", "(I)I"⟩
abbrev cX3_ofPlace : ByteArray := prog_5_method_36_code
def yX3_ofPlace : MethodName := ⟨RX3, "ofPlace", "(III)I"⟩
abbrev cX3_sound : ByteArray := prog_5_method_37_code
def yX3_sound : MethodName := ⟨RX3, "sound", "(II)I"⟩
abbrev cX3_cellOf : ByteArray := prog_5_method_38_code
def yX3_cellOf : MethodName := ⟨RX3, "cellOf", "(II)I"⟩
abbrev cX3_hasFlag : ByteArray := prog_5_method_39_code
def yX3_hasFlag : MethodName := ⟨RX3, "hasFlag", "(I)Z"⟩
abbrev cX3_lost : ByteArray := prog_5_method_40_code
def yX3_lost : MethodName := ⟨RX3, "lost", "(I)I"⟩
abbrev cX3_owner : ByteArray := prog_5_method_41_code
def yX3_owner : MethodName := ⟨RX3, "owner", "(I)I"⟩
abbrev cX3_free : ByteArray := prog_5_method_42_code
def yX3_free : MethodName := ⟨RX3, "free", "()I"⟩
abbrev cX3_spoken : ByteArray := prog_5_method_43_code
def yX3_spoken : MethodName := ⟨RX3, "spoken", "()I"⟩
abbrev cX3_gone : ByteArray := prog_5_method_44_code
def yX3_gone : MethodName := ⟨RX3, "gone", "()I"⟩
abbrev cX3_usedShare : ByteArray := prog_5_method_45_code
def yX3_usedShare : MethodName := ⟨RX3, "usedShare", "()D"⟩
abbrev cX3_go : ByteArray := prog_5_method_46_code
def yX3_go : MethodName := ⟨RX3, "go", "(I)I"⟩
abbrev cX3_play : ByteArray := prog_5_method_47_code
def yX3_play : MethodName := ⟨RX3, "play", "()I"⟩
abbrev cX3_back : ByteArray := prog_5_method_48_code
def yX3_back : MethodName := ⟨RX3, "back", "(I)I"⟩
abbrev cX3_playing : ByteArray := prog_5_method_49_code
def yX3_playing : MethodName := ⟨RX3, "playing", "()I"⟩
abbrev cX3_place : ByteArray := prog_5_method_50_code
def yX3_place : MethodName := ⟨RX3, "place", "()I"⟩
abbrev cX3_correct : ByteArray := prog_5_method_51_code
def yX3_correct : MethodName := ⟨RX3, "correct", "(III)I"⟩
abbrev cX3_carbon : ByteArray := prog_5_method_52_code
def yX3_carbon : MethodName := ⟨RX3, "carbon", "(II)I"⟩
abbrev cX3_correctedCells : ByteArray := prog_5_method_53_code
def yX3_correctedCells : MethodName := ⟨RX3, "correctedCells", "()I"⟩
abbrev cX3_corrected : ByteArray := prog_5_method_54_code
def yX3_corrected : MethodName := ⟨RX3, "corrected", "()I"⟩
abbrev cX3_room : ByteArray := prog_5_method_55_code
def yX3_room : MethodName := ⟨RX3, "room", "()I"⟩
abbrev cX3_loser : ByteArray := prog_5_method_56_code
def yX3_loser : MethodName := ⟨RX3, "loser", "()I"⟩
abbrev cX3_nextLoser : ByteArray := prog_5_method_57_code
def yX3_nextLoser : MethodName := ⟨RX3, "nextLoser", "()I"⟩
abbrev cX3_loss : ByteArray := prog_5_method_58_code
def yX3_loss : MethodName := ⟨RX3, "loss", "(II)I"⟩
abbrev cX3_lossOf : ByteArray := prog_5_method_59_code
def yX3_lossOf : MethodName := ⟨RX3, "lossOf", "(II)I"⟩
abbrev cX3_goneAfter : ByteArray := prog_5_method_60_code
def yX3_goneAfter : MethodName := ⟨RX3, "goneAfter", "(I)I"⟩
abbrev cX3_append : ByteArray := prog_5_method_61_code
def yX3_append : MethodName := ⟨RX3, "append", "(I)I"⟩
abbrev cX3_clearText : ByteArray := prog_5_method_62_code
def yX3_clearText : MethodName := ⟨RX3, "clearText", "()I"⟩
abbrev cX3_sign : ByteArray := prog_5_method_63_code
def yX3_sign : MethodName := ⟨RX3, "sign", "()I"⟩
abbrev cX3_takes : ByteArray := prog_5_method_64_code
def yX3_takes : MethodName := ⟨RX3, "takes", "(I)Z"⟩
abbrev cX3_number : ByteArray := prog_5_method_65_code
def yX3_number : MethodName := ⟨RX3, "number", "(II)I"⟩
abbrev cX3_readsOrder : ByteArray := prog_5_method_66_code
def yX3_readsOrder : MethodName := ⟨RX3, "readsOrder", "()Z"⟩
abbrev cX3_areOrders : ByteArray := prog_5_method_67_code
def yX3_areOrders : MethodName := ⟨RX3, "areOrders", "()Z"⟩
abbrev cX3_firstError : ByteArray := prog_5_method_68_code
def yX3_firstError : MethodName := ⟨RX3, "firstError", "()I"⟩
abbrev cX3_can : ByteArray := prog_5_method_69_code
def yX3_can : MethodName := ⟨RX3, "can", "()Z"⟩
abbrev cX3_does : ByteArray := prog_5_method_70_code
def yX3_does : MethodName := ⟨RX3, "does", "()V"⟩
abbrev cX3_run : ByteArray := prog_5_method_71_code
def yX3_run : MethodName := ⟨RX3, "run", "()I"⟩
abbrev cX3_undo : ByteArray := prog_5_method_72_code
def yX3_undo : MethodName := ⟨RX3, "undo", "()I"⟩
abbrev cX3_savedStates : ByteArray := prog_5_method_73_code
def yX3_savedStates : MethodName := ⟨RX3, "savedStates", "()I"⟩
abbrev cX3_mix : ByteArray := prog_5_method_74_code
def yX3_mix : MethodName := ⟨RX3, "mix", "(J)V"⟩
abbrev cX3_digest : ByteArray := prog_5_method_75_code
def yX3_digest : MethodName := ⟨RX3, "digest", "()J"⟩
def RJ9 : String := "java/lang/Math"
def TJ9 : u_T := fun k => match k with
  | _ => ("", "", "", false)
def tyJ9 : Nat → FieldType := fun k => match k with
  | _ => .int
abbrev wsJ90 : List Cond := u_ws RJ9 TJ9 0
theorem nmJ9 : ∀ a, a < 0 → ∀ b, b < 0 → a ≠ b → (TJ9 a).2.1 ≠ (TJ9 b).2.1 := by decide +kernel
theorem tyJ9_ok : ∀ k, k < 0 → parseFieldDescriptor (TJ9 k).2.2.1 = some (tyJ9 k) := by decide +kernel
abbrev cJ9_max_7cf53 : ByteArray := prog_10_method_65_code
def yJ9_max_7cf53 : MethodName := ⟨RJ9, "max", "(II)I"⟩
abbrev cJ9_min_7cf53 : ByteArray := prog_10_method_69_code
def yJ9_min_7cf53 : MethodName := ⟨RJ9, "min", "(II)I"⟩
def RJ0 : String := "java/lang/String"
def TJ0 : u_T := fun k => match k with
  | _ => ("", "", "", false)
def tyJ0 : Nat → FieldType := fun k => match k with
  | _ => .int
abbrev wsJ00 : List Cond := u_ws RJ0 TJ0 0
theorem nmJ0 : ∀ a, a < 0 → ∀ b, b < 0 → a ≠ b → (TJ0 a).2.1 ≠ (TJ0 b).2.1 := by decide +kernel
theorem tyJ0_ok : ∀ k, k < 0 → parseFieldDescriptor (TJ0 k).2.2.1 = some (tyJ0 k) := by decide +kernel
def RJ10 : String := "java/lang/System"
def TJ10 : u_T := fun k => match k with
  | _ => ("", "", "", false)
def tyJ10 : Nat → FieldType := fun k => match k with
  | _ => .int
abbrev wsJ100 : List Cond := u_ws RJ10 TJ10 0
theorem nmJ10 : ∀ a, a < 0 → ∀ b, b < 0 → a ≠ b → (TJ10 a).2.1 ≠ (TJ10 b).2.1 := by decide +kernel
theorem tyJ10_ok : ∀ k, k < 0 → parseFieldDescriptor (TJ10 k).2.2.1 = some (tyJ10 k) := by decide +kernel
def RL : String := "DictationBeltLaw"
abbrev cL_begin : ByteArray := method_3_code
def yL_begin : MethodName := ⟨RL, "begin", "(LDictationBelt;[J)I"⟩
abbrev cL_halt : ByteArray := method_4_code
def yL_halt : MethodName := ⟨RL, "halt", "(LDictationBelt;[J)I"⟩
abbrev cL_speak : ByteArray := method_5_code
def yL_speak : MethodName := ⟨RL, "speak", "(LDictationBelt;I[J)I"⟩
abbrev cL_setFlag : ByteArray := method_6_code
def yL_setFlag : MethodName := ⟨RL, "setFlag", "(LDictationBelt;IZ[J)I"⟩
abbrev cL_erase : ByteArray := method_7_code
def yL_erase : MethodName := ⟨RL, "erase", "(LDictationBelt;I[J)I"⟩
abbrev cL_moveHead : ByteArray := method_8_code
def yL_moveHead : MethodName := ⟨RL, "moveHead", "(LDictationBelt;I[J)I"⟩
abbrev cL_length : ByteArray := method_9_code
def yL_length : MethodName := ⟨RL, "length", "(LDictationBelt;I[J)I"⟩
abbrev cL_sound : ByteArray := method_10_code
def yL_sound : MethodName := ⟨RL, "sound", "(LDictationBelt;II[J)I"⟩
abbrev cL_cellOf : ByteArray := method_11_code
def yL_cellOf : MethodName := ⟨RL, "cellOf", "(LDictationBelt;II[J)I"⟩
abbrev cL_hasFlag : ByteArray := method_12_code
def yL_hasFlag : MethodName := ⟨RL, "hasFlag", "(LDictationBelt;I[J)I"⟩
abbrev cL_lost : ByteArray := method_13_code
def yL_lost : MethodName := ⟨RL, "lost", "(LDictationBelt;I[J)I"⟩
abbrev cL_owner : ByteArray := method_14_code
def yL_owner : MethodName := ⟨RL, "owner", "(LDictationBelt;I[J)I"⟩
abbrev cL_go : ByteArray := method_15_code
def yL_go : MethodName := ⟨RL, "go", "(LDictationBelt;I[J)I"⟩
abbrev cL_play : ByteArray := method_16_code
def yL_play : MethodName := ⟨RL, "play", "(LDictationBelt;[J)I"⟩
abbrev cL_back : ByteArray := method_17_code
def yL_back : MethodName := ⟨RL, "back", "(LDictationBelt;I[J)I"⟩
abbrev cL_correct : ByteArray := method_18_code
def yL_correct : MethodName := ⟨RL, "correct", "(LDictationBelt;III[J)I"⟩
abbrev cL_carbon : ByteArray := method_19_code
def yL_carbon : MethodName := ⟨RL, "carbon", "(LDictationBelt;II[J)I"⟩
abbrev cL_lossOf : ByteArray := method_20_code
def yL_lossOf : MethodName := ⟨RL, "lossOf", "(LDictationBelt;II[J)I"⟩
abbrev cL_goneAfter : ByteArray := method_21_code
def yL_goneAfter : MethodName := ⟨RL, "goneAfter", "(LDictationBelt;I[J)I"⟩
abbrev cL_append : ByteArray := method_22_code
def yL_append : MethodName := ⟨RL, "append", "(LDictationBelt;I[J)I"⟩
abbrev cL_run : ByteArray := method_23_code
def yL_run : MethodName := ⟨RL, "run", "(LDictationBelt;[J)I"⟩
abbrev cL_undo : ByteArray := method_24_code
def yL_undo : MethodName := ⟨RL, "undo", "(LDictationBelt;[J)I"⟩
abbrev cL_law : ByteArray := code
def yL_law : MethodName := ⟨RL, "law", "([I)Z"⟩
def wsL_law0_r1 : List Cond := [Cond.classLink RL 8 RX2, Cond.instantiable RX2 5, Cond.initialized RX2, Cond.classLink RL 88 RX3, Cond.instantiable RX3 10, Cond.initialized RX3, Cond.arrayClass .long, Cond.methodLink RL 87 yX2_init, Cond.instanceMethod yX2_init, Cond.code yX2_init cX2_init 2 none, Cond.methodLink RX2 1 objectInit, Cond.instanceMethod objectInit, Cond.code objectInit ⟨#[0xb1]⟩ 1 none, Cond.classLink RX2 7 RX1, Cond.instantiable RX1 14, Cond.initialized RX1, Cond.fieldLink RX2 10 "DictationBelt" "now" "LDictationBelt$State;", Cond.fieldLink RX2 16 "DictationBelt" "saved" "[LDictationBelt$State;", Cond.fieldLink RX2 20 "DictationBelt" "nextSlot" "I", Cond.fieldLink RX2 24 "DictationBelt" "savedCount" "I", Cond.classLink RX2 27 RX0, Cond.instantiable RX0 2, Cond.initialized RX0, Cond.fieldLink RX2 30 "DictationBelt" "text" "LDictationBelt$OrderText;"]
def wsL_law0_r2 : List Cond := [Cond.methodLink RX2 9 yX1_init, Cond.instanceMethod yX1_init, Cond.code yX1_init cX1_init 2 none, Cond.methodLink RX1 3 objectInit, Cond.arrayClass .int, Cond.fieldLink RX1 9 "DictationBelt$State" "owners" "[I", Cond.fieldLink RX1 15 "DictationBelt$State" "sounds" "[I", Cond.fieldLink RX1 18 "DictationBelt$State" "carbons" "[I", Cond.fieldLink RX1 21 "DictationBelt$State" "order" "[I", Cond.fieldLink RX1 24 "DictationBelt$State" "used" "I", Cond.fieldLink RX1 28 "DictationBelt$State" "flags" "[I", Cond.fieldLink RX1 31 "DictationBelt$State" "losses" "[I", Cond.fieldLink RX1 34 "DictationBelt$State" "count" "I", Cond.fieldLink RX1 37 "DictationBelt$State" "isRunning" "Z", Cond.fieldLink RX1 41 "DictationBelt$State" "head" "I", Cond.fieldLink RX1 44 "DictationBelt$State" "spoken" "I", Cond.fieldLink RX1 47 "DictationBelt$State" "gone" "I", Cond.fieldLink RX1 50 "DictationBelt$State" "player" "I", Cond.fieldLink RX1 53 "DictationBelt$State" "place" "I", Cond.methodLink RX2 29 yX0_init, Cond.instanceMethod yX0_init, Cond.code yX0_init cX0_init 1 none, Cond.methodLink RX0 3 objectInit, Cond.fieldLink RX0 9 "DictationBelt$OrderText" "codes" "[I"]
def wsL_law0_r3 : List Cond := [Cond.fieldLink RX0 15 "DictationBelt$OrderText" "length" "I", Cond.methodLink RL 90 yX3_init, Cond.instanceMethod yX3_init, Cond.code yX3_init cX3_init 2 none, Cond.methodLink RX3 1 objectInit, Cond.fieldLink RX3 7 "DictationBeltModel" "s" "[I", Cond.fieldLink RX3 13 "DictationBeltModel" "text" "[I", Cond.methodLink RL 91 yL_begin, Cond.static yL_begin, Cond.initialized RL, Cond.codeWith yL_begin cL_begin 3 (some .int) [(0, 8, 11, 13)], Cond.classLink RL 13 "java/lang/IllegalStateException", Cond.methodLink RL 7 yX2_begin, Cond.instanceMethod yX2_begin, Cond.selects RX2 yX2_begin yX2_begin, Cond.code yX2_begin cX2_begin 1 (some .int), Cond.classLink RX2 38 "java/lang/IllegalStateException", Cond.initialized "java/lang/IllegalStateException", Cond.methodLink RX2 34 yX1_mayBegin, Cond.instanceMethod yX1_mayBegin, Cond.selects RX1 yX1_mayBegin yX1_mayBegin, Cond.code yX1_mayBegin cX1_mayBegin 1 (some .boolean), Cond.methodLink RX1 70 yX1_runningNumber, Cond.instanceMethod yX1_runningNumber]
def wsL_law0_r4 : List Cond := [Cond.selects RX1 yX1_runningNumber yX1_runningNumber, Cond.code yX1_runningNumber cX1_runningNumber 1 (some .int), Cond.methodLink RX1 74 yX1_cellCount, Cond.instanceMethod yX1_cellCount, Cond.selects RX1 yX1_cellCount yX1_cellCount, Cond.code yX1_cellCount cX1_cellCount 4 (some .int), Cond.static yX2_valueAt, Cond.code yX2_valueAt cX2_valueAt 2 (some .int), Cond.methodLink RX2 45 yX2_save, Cond.instanceMethod yX2_save, Cond.selects RX2 yX2_save yX2_save, Cond.code yX2_save cX2_save 2 none, Cond.methodLink RX2 208 yX2_slotAt, Cond.instanceMethod yX2_slotAt, Cond.selects RX2 yX2_slotAt yX2_slotAt, Cond.code yX2_slotAt cX2_slotAt 2 (some (.object "DictationBelt$State")), Cond.methodLink RX2 212 yX1_copyFrom, Cond.instanceMethod yX1_copyFrom, Cond.selects RX1 yX1_copyFrom yX1_copyFrom, Cond.code yX1_copyFrom cX1_copyFrom 2 none, Cond.methodLink RX1 56 arraycopyName, Cond.native arraycopyName, Cond.static arraycopyName, Cond.initialized "java/lang/System"]
def wsL_law0_r5 : List Cond := [Cond.methodLink RX2 48 yX1_beginRecording, Cond.instanceMethod yX1_beginRecording, Cond.selects RX1 yX1_beginRecording yX1_beginRecording, Cond.code yX1_beginRecording cX1_beginRecording 2 (some .int), Cond.methodLink RX1 78 yX1_stopRecording, Cond.instanceMethod yX1_stopRecording, Cond.selects RX1 yX1_stopRecording yX1_stopRecording, Cond.code yX1_stopRecording cX1_stopRecording 3 (some .int), Cond.methodLink RX1 81 yX1_removeRecording, Cond.instanceMethod yX1_removeRecording, Cond.selects RX1 yX1_removeRecording yX1_removeRecording, Cond.code yX1_removeRecording cX1_removeRecording 4 none, Cond.static yX2_putAt, Cond.code yX2_putAt cX2_putAt 3 none, Cond.methodLink RL 96 yX3_begin, Cond.instanceMethod yX3_begin, Cond.selects RX3 yX3_begin yX3_begin, Cond.code yX3_begin cX3_begin 1 (some .int), Cond.methodLink RX3 60 yX3_canBegin, Cond.instanceMethod yX3_canBegin, Cond.selects RX3 yX3_canBegin yX3_canBegin, Cond.code yX3_canBegin cX3_canBegin 1 (some .boolean), Cond.methodLink RX3 32 yX3_cells, Cond.instanceMethod yX3_cells]
def wsL_law0_r6 : List Cond := [Cond.selects RX3 yX3_cells yX3_cells, Cond.code yX3_cells cX3_cells 4 (some .int), Cond.methodLink RX3 64 yX3_holds, Cond.instanceMethod yX3_holds, Cond.selects RX3 yX3_holds yX3_holds, Cond.code yX3_holds cX3_holds 2 (some .boolean), Cond.fieldLink RX3 16 "DictationBeltModel" "thrown" "I", Cond.methodLink RX3 67 yX3_save, Cond.instanceMethod yX3_save, Cond.selects RX3 yX3_save yX3_save, Cond.code yX3_save cX3_save 2 none, Cond.fieldLink RX3 53 "DictationBeltModel" "saved" "I", Cond.methodLink RX3 56 yX3_copies, Cond.instanceMethod yX3_copies, Cond.selects RX3 yX3_copies yX3_copies, Cond.code yX3_copies cX3_copies 4 none, Cond.methodLink RX3 70 yX3_begins, Cond.instanceMethod yX3_begins, Cond.selects RX3 yX3_begins yX3_begins, Cond.code yX3_begins cX3_begins 1 (some .int), Cond.methodLink RX3 42 yX3_halts, Cond.instanceMethod yX3_halts, Cond.selects RX3 yX3_halts yX3_halts, Cond.code yX3_halts cX3_halts 3 (some .int)]
def wsL_law0_r7 : List Cond := [Cond.methodLink RX3 35 yX3_leaves, Cond.instanceMethod yX3_leaves, Cond.selects RX3 yX3_leaves yX3_leaves, Cond.code yX3_leaves cX3_leaves 4 none, Cond.methodLink RL 97 yX3_thrown, Cond.instanceMethod yX3_thrown, Cond.selects RX3 yX3_thrown yX3_thrown, Cond.code yX3_thrown cX3_thrown 1 (some .int), Cond.methodLink RL 100 yL_halt, Cond.static yL_halt, Cond.codeWith yL_halt cL_halt 3 (some .int) [(0, 8, 11, 13)], Cond.methodLink RL 15 yX2_halt, Cond.instanceMethod yX2_halt, Cond.selects RX2 yX2_halt yX2_halt, Cond.code yX2_halt cX2_halt 1 (some .int), Cond.fieldLink RX2 52 "DictationBelt$State" "isRunning" "Z", Cond.methodLink RX2 58 yX1_stopRecording, Cond.methodLink RL 102 yX3_halt, Cond.instanceMethod yX3_halt, Cond.selects RX3 yX3_halt yX3_halt, Cond.code yX3_halt cX3_halt 1 (some .int), Cond.methodLink RL 103 yL_speak, Cond.static yL_speak, Cond.codeWith yL_speak cL_speak 4 (some .int) [(0, 9, 12, 22), (0, 9, 15, 13)]]
def wsL_law0_r8 : List Cond := [Cond.classLink RL 22 "java/lang/IllegalArgumentException", Cond.methodLink RL 18 yX2_speak, Cond.instanceMethod yX2_speak, Cond.selects RX2 yX2_speak yX2_speak, Cond.code yX2_speak cX2_speak 2 (some .int), Cond.methodLink RX2 61 yX2_requireSound, Cond.static yX2_requireSound, Cond.code yX2_requireSound cX2_requireSound 1 none, Cond.classLink RX2 149 "java/lang/IllegalArgumentException", Cond.initialized "java/lang/IllegalArgumentException", Cond.methodLink RX2 65 yX1_maySpeak, Cond.instanceMethod yX1_maySpeak, Cond.selects RX1 yX1_maySpeak yX1_maySpeak, Cond.code yX1_maySpeak cX1_maySpeak 2 (some .boolean), Cond.methodLink RX1 95 yX1_writableCells, Cond.instanceMethod yX1_writableCells, Cond.selects RX1 yX1_writableCells yX1_writableCells, Cond.code yX1_writableCells cX1_writableCells 3 (some .int), Cond.methodLink RX1 88 yX1_isWritable, Cond.instanceMethod yX1_isWritable, Cond.selects RX1 yX1_isWritable yX1_isWritable, Cond.code yX1_isWritable cX1_isWritable 3 (some .boolean), Cond.methodLink RX2 71 yX1_speakTimes, Cond.instanceMethod yX1_speakTimes]
def wsL_law0_r9 : List Cond := [Cond.selects RX1 yX1_speakTimes yX1_speakTimes, Cond.code yX1_speakTimes cX1_speakTimes 5 (some .int), Cond.methodLink RX1 98 yX1_firstWritable, Cond.instanceMethod yX1_firstWritable, Cond.selects RX1 yX1_firstWritable yX1_firstWritable, Cond.code yX1_firstWritable cX1_firstWritable 3 (some .int), Cond.methodLink RX1 92 yX1_cellFromHead, Cond.instanceMethod yX1_cellFromHead, Cond.selects RX1 yX1_cellFromHead yX1_cellFromHead, Cond.code yX1_cellFromHead cX1_cellFromHead 2 (some .int), Cond.methodLink RX1 101 yX1_loseCell, Cond.instanceMethod yX1_loseCell, Cond.selects RX1 yX1_loseCell yX1_loseCell, Cond.code yX1_loseCell cX1_loseCell 3 none, Cond.methodLink RX1 108 yX1_cellsBefore, Cond.instanceMethod yX1_cellsBefore, Cond.selects RX1 yX1_cellsBefore yX1_cellsBefore, Cond.code yX1_cellsBefore cX1_cellsBefore 6 (some .int), Cond.methodLink RX1 85 yX1_dropFreeCells, Cond.instanceMethod yX1_dropFreeCells, Cond.selects RX1 yX1_dropFreeCells yX1_dropFreeCells, Cond.code yX1_dropFreeCells cX1_dropFreeCells 4 none, Cond.methodLink RX1 104 yX1_writeCell, Cond.instanceMethod yX1_writeCell]
def wsL_law0_r10 : List Cond := [Cond.selects RX1 yX1_writeCell yX1_writeCell, Cond.code yX1_writeCell cX1_writeCell 3 none, Cond.methodLink RL 106 yX3_speak, Cond.instanceMethod yX3_speak, Cond.selects RX3 yX3_speak yX3_speak, Cond.code yX3_speak cX3_speak 2 (some .int), Cond.methodLink RX3 73 yX3_isSound, Cond.static yX3_isSound, Cond.code yX3_isSound cX3_isSound 1 (some .boolean), Cond.methodLink RX3 20 yX3_in, Cond.static yX3_in, Cond.code yX3_in cX3_in 3 (some .boolean), Cond.methodLink RX3 76 yX3_canSpeak, Cond.instanceMethod yX3_canSpeak, Cond.selects RX3 yX3_canSpeak yX3_canSpeak, Cond.code yX3_canSpeak cX3_canSpeak 2 (some .boolean), Cond.methodLink RX3 46 yX3_writable, Cond.instanceMethod yX3_writable, Cond.selects RX3 yX3_writable yX3_writable, Cond.code yX3_writable cX3_writable 3 (some .int), Cond.methodLink RX3 28 yX3_isWritable, Cond.instanceMethod yX3_isWritable, Cond.selects RX3 yX3_isWritable yX3_isWritable, Cond.code yX3_isWritable cX3_isWritable 3 (some .boolean)]
def wsL_law0_r11 : List Cond := [Cond.methodLink RX3 79 yX3_speaks, Cond.instanceMethod yX3_speaks, Cond.selects RX3 yX3_speaks yX3_speaks, Cond.code yX3_speaks cX3_speaks 3 (some .int), Cond.methodLink RX3 39 yX3_loses, Cond.instanceMethod yX3_loses, Cond.selects RX3 yX3_loses yX3_loses, Cond.code yX3_loses cX3_loses 3 none, Cond.methodLink RX3 24 yX3_placeOf, Cond.instanceMethod yX3_placeOf, Cond.selects RX3 yX3_placeOf yX3_placeOf, Cond.code yX3_placeOf cX3_placeOf 4 (some .int), Cond.methodLink RL 107 yL_setFlag, Cond.static yL_setFlag, Cond.codeWith yL_setFlag cL_setFlag 5 (some .int) [(0, 17, 20, 28)], Cond.classLink RL 28 "java/lang/IndexOutOfBoundsException", Cond.methodLink RL 24 yX2_setFlag, Cond.instanceMethod yX2_setFlag, Cond.selects RX2 yX2_setFlag yX2_setFlag, Cond.code yX2_setFlag cX2_setFlag 4 (some .boolean), Cond.methodLink RX2 75 yX2_requireRecording, Cond.instanceMethod yX2_requireRecording, Cond.selects RX2 yX2_requireRecording yX2_requireRecording, Cond.code yX2_requireRecording cX2_requireRecording 2 none]
def wsL_law0_r12 : List Cond := [Cond.classLink RX2 279 "java/lang/IndexOutOfBoundsException", Cond.initialized "java/lang/IndexOutOfBoundsException", Cond.methodLink RX2 276 yX1_isRecording, Cond.instanceMethod yX1_isRecording, Cond.selects RX1 yX1_isRecording yX1_isRecording, Cond.code yX1_isRecording cX1_isRecording 2 (some .boolean), Cond.methodLink RX2 78 yX1_isFlagged, Cond.instanceMethod yX1_isFlagged, Cond.selects RX1 yX1_isFlagged yX1_isFlagged, Cond.code yX1_isFlagged cX1_isFlagged 2 (some .boolean), Cond.methodLink RX2 81 yX1_putFlag, Cond.instanceMethod yX1_putFlag, Cond.selects RX1 yX1_putFlag yX1_putFlag, Cond.code yX1_putFlag cX1_putFlag 3 none, Cond.methodLink RL 110 yX3_setFlag, Cond.instanceMethod yX3_setFlag, Cond.selects RX3 yX3_setFlag yX3_setFlag, Cond.code yX3_setFlag cX3_setFlag 4 (some .boolean), Cond.methodLink RX3 82 yX3_isRecording, Cond.instanceMethod yX3_isRecording, Cond.selects RX3 yX3_isRecording yX3_isRecording, Cond.code yX3_isRecording cX3_isRecording 2 (some .boolean), Cond.methodLink RL 111 yL_erase, Cond.static yL_erase]
def wsL_law0_r13 : List Cond := [Cond.codeWith yL_erase cL_erase 4 (some .int) [(0, 9, 12, 28), (0, 9, 15, 13)], Cond.methodLink RL 30 yX2_erase, Cond.instanceMethod yX2_erase, Cond.selects RX2 yX2_erase yX2_erase, Cond.code yX2_erase cX2_erase 2 (some .int), Cond.methodLink RX2 87 yX1_eraseRecording, Cond.instanceMethod yX1_eraseRecording, Cond.selects RX1 yX1_eraseRecording yX1_eraseRecording, Cond.code yX1_eraseRecording cX1_eraseRecording 4 (some .int), Cond.methodLink RL 113 yX3_erase, Cond.instanceMethod yX3_erase, Cond.selects RX3 yX3_erase yX3_erase, Cond.code yX3_erase cX3_erase 4 (some .int), Cond.methodLink RL 114 yL_moveHead, Cond.static yL_moveHead, Cond.codeWith yL_moveHead cL_moveHead 4 (some .int) [(0, 9, 12, 28), (0, 9, 15, 13)], Cond.methodLink RL 33 yX2_moveHead, Cond.instanceMethod yX2_moveHead, Cond.selects RX2 yX2_moveHead yX2_moveHead, Cond.code yX2_moveHead cX2_moveHead 3 (some .int), Cond.fieldLink RX2 96 "DictationBelt$State" "head" "I", Cond.methodLink RX2 91 yX2_requireCell, Cond.static yX2_requireCell, Cond.code yX2_requireCell cX2_requireCell 1 none]
def wsL_law0_r14 : List Cond := [Cond.methodLink RL 116 yX3_moveHead, Cond.instanceMethod yX3_moveHead, Cond.selects RX3 yX3_moveHead yX3_moveHead, Cond.code yX3_moveHead cX3_moveHead 3 (some .int), Cond.methodLink RX3 85 yX3_isCell, Cond.static yX3_isCell, Cond.code yX3_isCell cX3_isCell 1 (some .boolean), Cond.methodLink RL 117 yX2_recordings, Cond.instanceMethod yX2_recordings, Cond.selects RX2 yX2_recordings yX2_recordings, Cond.code yX2_recordings cX2_recordings 1 (some .int), Cond.fieldLink RX2 99 "DictationBelt$State" "count" "I", Cond.methodLink RL 120 yX3_recordings, Cond.instanceMethod yX3_recordings, Cond.selects RX3 yX3_recordings yX3_recordings, Cond.code yX3_recordings cX3_recordings 1 (some .int), Cond.methodLink RX3 88 yX3_told, Cond.instanceMethod yX3_told, Cond.selects RX3 yX3_told yX3_told, Cond.code yX3_told cX3_told 2 (some .int), Cond.methodLink RL 121 yX2_running, Cond.instanceMethod yX2_running, Cond.selects RX2 yX2_running yX2_running, Cond.code yX2_running cX2_running 1 (some .int)]
def wsL_law0_r15 : List Cond := [Cond.methodLink RX2 102 yX1_runningNumber, Cond.methodLink RL 124 yX3_running, Cond.instanceMethod yX3_running, Cond.selects RX3 yX3_running yX3_running, Cond.code yX3_running cX3_running 1 (some .int), Cond.methodLink RL 125 yX2_head, Cond.instanceMethod yX2_head, Cond.selects RX2 yX2_head yX2_head, Cond.code yX2_head cX2_head 1 (some .int), Cond.methodLink RL 128 yX3_head, Cond.instanceMethod yX3_head, Cond.selects RX3 yX3_head yX3_head, Cond.code yX3_head cX3_head 1 (some .int), Cond.methodLink RL 129 yL_length, Cond.static yL_length, Cond.codeWith yL_length cL_length 4 (some .int) [(0, 9, 12, 28)], Cond.methodLink RL 36 yX2_length, Cond.instanceMethod yX2_length, Cond.selects RX2 yX2_length yX2_length, Cond.code yX2_length cX2_length 2 (some .int), Cond.methodLink RX2 105 yX1_cellCount, Cond.methodLink RL 131 yX3_length, Cond.instanceMethod yX3_length, Cond.selects RX3 yX3_length yX3_length]
def wsL_law0_r16 : List Cond := [Cond.code yX3_length cX3_length 2 (some .int), Cond.methodLink RL 132 yL_sound, Cond.static yL_sound, Cond.codeWith yL_sound cL_sound 5 (some .int) [(0, 10, 13, 28)], Cond.methodLink RL 39 yX2_sound, Cond.instanceMethod yX2_sound, Cond.selects RX2 yX2_sound yX2_sound, Cond.code yX2_sound cX2_sound 3 (some .int), Cond.fieldLink RX2 112 "DictationBelt$State" "sounds" "[I", Cond.methodLink RX2 108 yX2_requirePlace, Cond.instanceMethod yX2_requirePlace, Cond.selects RX2 yX2_requirePlace yX2_requirePlace, Cond.code yX2_requirePlace cX2_requirePlace 3 none, Cond.methodLink RX2 116 yX1_cellAt, Cond.instanceMethod yX1_cellAt, Cond.selects RX1 yX1_cellAt yX1_cellAt, Cond.code yX1_cellAt cX1_cellAt 6 (some .int), Cond.methodLink RX2 119 yX2_valueAt, Cond.methodLink RL 135 yX3_sound, Cond.instanceMethod yX3_sound, Cond.selects RX3 yX3_sound yX3_sound, Cond.code yX3_sound cX3_sound 3 (some .int), Cond.methodLink RX3 91 yX3_ofPlace, Cond.instanceMethod yX3_ofPlace]
def wsL_law0_r17 : List Cond := [Cond.selects RX3 yX3_ofPlace yX3_ofPlace, Cond.code yX3_ofPlace cX3_ofPlace 5 (some .int), Cond.methodLink RX3 49 yX3_cellAt, Cond.instanceMethod yX3_cellAt, Cond.selects RX3 yX3_cellAt yX3_cellAt, Cond.code yX3_cellAt cX3_cellAt 4 (some .int), Cond.methodLink RL 136 yL_cellOf, Cond.static yL_cellOf, Cond.codeWith yL_cellOf cL_cellOf 5 (some .int) [(0, 10, 13, 28)], Cond.methodLink RL 43 yX2_cellOf, Cond.instanceMethod yX2_cellOf, Cond.selects RX2 yX2_cellOf yX2_cellOf, Cond.code yX2_cellOf cX2_cellOf 3 (some .int), Cond.methodLink RL 138 yX3_cellOf, Cond.instanceMethod yX3_cellOf, Cond.selects RX3 yX3_cellOf yX3_cellOf, Cond.code yX3_cellOf cX3_cellOf 3 (some .int), Cond.methodLink RL 139 yL_hasFlag, Cond.static yL_hasFlag, Cond.codeWith yL_hasFlag cL_hasFlag 4 (some .int) [(0, 16, 19, 28)], Cond.methodLink RL 46 yX2_hasFlag, Cond.instanceMethod yX2_hasFlag, Cond.selects RX2 yX2_hasFlag yX2_hasFlag, Cond.code yX2_hasFlag cX2_hasFlag 2 (some .boolean)]
def wsL_law0_r18 : List Cond := [Cond.methodLink RL 141 yX3_hasFlag, Cond.instanceMethod yX3_hasFlag, Cond.selects RX3 yX3_hasFlag yX3_hasFlag, Cond.code yX3_hasFlag cX3_hasFlag 2 (some .boolean), Cond.methodLink RL 142 yL_lost, Cond.static yL_lost, Cond.codeWith yL_lost cL_lost 4 (some .int) [(0, 9, 12, 28)], Cond.methodLink RL 50 yX2_lost, Cond.instanceMethod yX2_lost, Cond.selects RX2 yX2_lost yX2_lost, Cond.code yX2_lost cX2_lost 2 (some .int), Cond.fieldLink RX2 123 "DictationBelt$State" "losses" "[I", Cond.methodLink RL 144 yX3_lost, Cond.instanceMethod yX3_lost, Cond.selects RX3 yX3_lost yX3_lost, Cond.code yX3_lost cX3_lost 2 (some .int), Cond.methodLink RL 145 yL_owner, Cond.static yL_owner, Cond.codeWith yL_owner cL_owner 4 (some .int) [(0, 9, 12, 28)], Cond.methodLink RL 53 yX2_owner, Cond.instanceMethod yX2_owner, Cond.selects RX2 yX2_owner yX2_owner, Cond.code yX2_owner cX2_owner 2 (some .int), Cond.fieldLink RX2 126 "DictationBelt$State" "owners" "[I"]
def wsL_law0_r19 : List Cond := [Cond.methodLink RL 147 yX3_owner, Cond.instanceMethod yX3_owner, Cond.selects RX3 yX3_owner yX3_owner, Cond.code yX3_owner cX3_owner 2 (some .int), Cond.methodLink RL 148 yX2_free, Cond.instanceMethod yX2_free, Cond.selects RX2 yX2_free yX2_free, Cond.code yX2_free cX2_free 1 (some .int), Cond.fieldLink RX2 129 "DictationBelt$State" "used" "I", Cond.methodLink RL 151 yX3_free, Cond.instanceMethod yX3_free, Cond.selects RX3 yX3_free yX3_free, Cond.code yX3_free cX3_free 1 (some .int), Cond.methodLink RL 152 yX2_spoken, Cond.instanceMethod yX2_spoken, Cond.selects RX2 yX2_spoken yX2_spoken, Cond.code yX2_spoken cX2_spoken 1 (some .int), Cond.fieldLink RX2 132 "DictationBelt$State" "spoken" "I", Cond.methodLink RL 155 yX3_spoken, Cond.instanceMethod yX3_spoken, Cond.selects RX3 yX3_spoken yX3_spoken, Cond.code yX3_spoken cX3_spoken 1 (some .int), Cond.methodLink RL 156 yX2_gone, Cond.instanceMethod yX2_gone]
def wsL_law0_r20 : List Cond := [Cond.selects RX2 yX2_gone yX2_gone, Cond.code yX2_gone cX2_gone 1 (some .int), Cond.fieldLink RX2 135 "DictationBelt$State" "gone" "I", Cond.methodLink RL 159 yX3_gone, Cond.instanceMethod yX3_gone, Cond.selects RX3 yX3_gone yX3_gone, Cond.code yX3_gone cX3_gone 1 (some .int), Cond.methodLink RL 160 yX2_usedShare, Cond.instanceMethod yX2_usedShare, Cond.selects RX2 yX2_usedShare yX2_usedShare, Cond.code yX2_usedShare cX2_usedShare 1 (some .double), Cond.constantDouble RX2 138 (4629700416936869888), Cond.methodLink RL 164 yX3_usedShare, Cond.instanceMethod yX3_usedShare, Cond.selects RX3 yX3_usedShare yX3_usedShare, Cond.code yX3_usedShare cX3_usedShare 1 (some .double), Cond.constantDouble RX3 95 (4629700416936869888), Cond.methodLink RL 165 yL_go, Cond.static yL_go, Cond.codeWith yL_go cL_go 4 (some .int) [(0, 9, 12, 28)], Cond.methodLink RL 56 yX2_go, Cond.instanceMethod yX2_go, Cond.selects RX2 yX2_go yX2_go, Cond.code yX2_go cX2_go 2 (some .int)]
def wsL_law0_r21 : List Cond := [Cond.methodLink RX2 140 yX1_bringPlayer, Cond.instanceMethod yX1_bringPlayer, Cond.selects RX1 yX1_bringPlayer yX1_bringPlayer, Cond.code yX1_bringPlayer cX1_bringPlayer 2 none, Cond.methodLink RL 167 yX3_go, Cond.instanceMethod yX3_go, Cond.selects RX3 yX3_go yX3_go, Cond.code yX3_go cX3_go 2 (some .int), Cond.methodLink RX3 97 yX3_goes, Cond.instanceMethod yX3_goes, Cond.selects RX3 yX3_goes yX3_goes, Cond.code yX3_goes cX3_goes 2 (some .int), Cond.methodLink RL 168 yL_play, Cond.static yL_play, Cond.codeWith yL_play cL_play 3 (some .int) [(0, 8, 11, 13)], Cond.methodLink RL 59 yX2_play, Cond.instanceMethod yX2_play, Cond.selects RX2 yX2_play yX2_play, Cond.code yX2_play cX2_play 1 (some .int), Cond.methodLink RX2 143 yX2_requirePlayer, Cond.instanceMethod yX2_requirePlayer, Cond.selects RX2 yX2_requirePlayer yX2_requirePlayer, Cond.code yX2_requirePlayer cX2_requirePlayer 1 none, Cond.fieldLink RX2 157 "DictationBelt$State" "player" "I"]
def wsL_law0_r22 : List Cond := [Cond.methodLink RX2 146 yX1_playCell, Cond.instanceMethod yX1_playCell, Cond.selects RX1 yX1_playCell yX1_playCell, Cond.code yX1_playCell cX1_playCell 2 (some .int), Cond.methodLink RX1 111 yX1_cellAt, Cond.methodLink RL 170 yX3_play, Cond.instanceMethod yX3_play, Cond.selects RX3 yX3_play yX3_play, Cond.code yX3_play cX3_play 1 (some .int), Cond.methodLink RX3 100 yX3_plays, Cond.instanceMethod yX3_plays, Cond.selects RX3 yX3_plays yX3_plays, Cond.code yX3_plays cX3_plays 2 (some .int), Cond.methodLink RL 171 yL_back, Cond.static yL_back, Cond.codeWith yL_back cL_back 4 (some .int) [(0, 9, 12, 22), (0, 9, 15, 13)], Cond.methodLink RL 62 yX2_back, Cond.instanceMethod yX2_back, Cond.selects RX2 yX2_back yX2_back, Cond.code yX2_back cX2_back 2 (some .int), Cond.methodLink RX2 154 yX1_stepBack, Cond.instanceMethod yX1_stepBack, Cond.selects RX1 yX1_stepBack yX1_stepBack, Cond.code yX1_stepBack cX1_stepBack 2 (some .int)]
def wsL_law0_r23 : List Cond := [Cond.methodLink RX1 115 Lib.Math.max.name, Cond.static Lib.Math.max.name, Cond.initialized "java/lang/Math", Cond.code Lib.Math.max.name Lib.Math.max.code 2 (some .int), Cond.methodLink RL 173 yX3_back, Cond.instanceMethod yX3_back, Cond.selects RX3 yX3_back yX3_back, Cond.code yX3_back cX3_back 2 (some .int), Cond.methodLink RX3 103 yX3_goesBack, Cond.instanceMethod yX3_goesBack, Cond.selects RX3 yX3_goesBack yX3_goesBack, Cond.code yX3_goesBack cX3_goesBack 2 (some .int), Cond.methodLink RL 174 yX2_playing, Cond.instanceMethod yX2_playing, Cond.selects RX2 yX2_playing yX2_playing, Cond.code yX2_playing cX2_playing 1 (some .int), Cond.methodLink RL 177 yX3_playing, Cond.instanceMethod yX3_playing, Cond.selects RX3 yX3_playing yX3_playing, Cond.code yX3_playing cX3_playing 1 (some .int), Cond.methodLink RL 178 yX2_place, Cond.instanceMethod yX2_place, Cond.selects RX2 yX2_place yX2_place, Cond.code yX2_place cX2_place 1 (some .int)]
def wsL_law0_r24 : List Cond := [Cond.fieldLink RX2 160 "DictationBelt$State" "place" "I", Cond.methodLink RL 181 yX3_place, Cond.instanceMethod yX3_place, Cond.selects RX3 yX3_place yX3_place, Cond.code yX3_place cX3_place 1 (some .int), Cond.methodLink RL 182 yL_correct, Cond.static yL_correct, Cond.codeWith yL_correct cL_correct 6 (some .int) [(0, 12, 15, 28), (0, 12, 19, 22), (0, 12, 23, 13)], Cond.methodLink RL 65 yX2_correct, Cond.instanceMethod yX2_correct, Cond.selects RX2 yX2_correct yX2_correct, Cond.code yX2_correct cX2_correct 6 (some .int), Cond.methodLink RX2 163 yX2_putAt, Cond.methodLink RL 185 yX3_correct, Cond.instanceMethod yX3_correct, Cond.selects RX3 yX3_correct yX3_correct, Cond.code yX3_correct cX3_correct 6 (some .int), Cond.methodLink RL 186 yL_carbon, Cond.static yL_carbon, Cond.codeWith yL_carbon cL_carbon 5 (some .int) [(0, 10, 13, 28)], Cond.methodLink RL 69 yX2_carbon, Cond.instanceMethod yX2_carbon, Cond.selects RX2 yX2_carbon yX2_carbon, Cond.code yX2_carbon cX2_carbon 3 (some .int)]
def wsL_law0_r25 : List Cond := [Cond.fieldLink RX2 167 "DictationBelt$State" "carbons" "[I", Cond.methodLink RL 188 yX3_carbon, Cond.instanceMethod yX3_carbon, Cond.selects RX3 yX3_carbon yX3_carbon, Cond.code yX3_carbon cX3_carbon 3 (some .int), Cond.methodLink RL 189 yX2_corrected, Cond.instanceMethod yX2_corrected, Cond.selects RX2 yX2_corrected yX2_corrected, Cond.code yX2_corrected cX2_corrected 1 (some .int), Cond.methodLink RX2 170 yX1_correctedCells, Cond.instanceMethod yX1_correctedCells, Cond.selects RX1 yX1_correctedCells yX1_correctedCells, Cond.code yX1_correctedCells cX1_correctedCells 3 (some .int), Cond.methodLink RL 192 yX3_corrected, Cond.instanceMethod yX3_corrected, Cond.selects RX3 yX3_corrected yX3_corrected, Cond.code yX3_corrected cX3_corrected 1 (some .int), Cond.methodLink RX3 106 yX3_correctedCells, Cond.instanceMethod yX3_correctedCells, Cond.selects RX3 yX3_correctedCells yX3_correctedCells, Cond.code yX3_correctedCells cX3_correctedCells 3 (some .int), Cond.methodLink RL 193 yX2_room, Cond.instanceMethod yX2_room, Cond.selects RX2 yX2_room yX2_room]
def wsL_law0_r26 : List Cond := [Cond.code yX2_room cX2_room 1 (some .int), Cond.methodLink RX2 173 yX1_writableCells, Cond.methodLink RL 196 yX3_room, Cond.instanceMethod yX3_room, Cond.selects RX3 yX3_room yX3_room, Cond.code yX3_room cX3_room 1 (some .int), Cond.methodLink RL 197 yX2_nextLoser, Cond.instanceMethod yX2_nextLoser, Cond.selects RX2 yX2_nextLoser yX2_nextLoser, Cond.code yX2_nextLoser cX2_nextLoser 1 (some .int), Cond.methodLink RX2 176 yX1_firstLoser, Cond.instanceMethod yX1_firstLoser, Cond.selects RX1 yX1_firstLoser yX1_firstLoser, Cond.code yX1_firstLoser cX1_firstLoser 4 (some .int), Cond.methodLink RL 200 yX3_nextLoser, Cond.instanceMethod yX3_nextLoser, Cond.selects RX3 yX3_nextLoser yX3_nextLoser, Cond.code yX3_nextLoser cX3_nextLoser 1 (some .int), Cond.methodLink RX3 109 yX3_loser, Cond.instanceMethod yX3_loser, Cond.selects RX3 yX3_loser yX3_loser, Cond.code yX3_loser cX3_loser 3 (some .int), Cond.methodLink RL 201 yL_lossOf, Cond.static yL_lossOf]
def wsL_law0_r27 : List Cond := [Cond.codeWith yL_lossOf cL_lossOf 5 (some .int) [(0, 10, 13, 28), (0, 10, 17, 22)], Cond.methodLink RL 72 yX2_lossOf, Cond.instanceMethod yX2_lossOf, Cond.selects RX2 yX2_lossOf yX2_lossOf, Cond.code yX2_lossOf cX2_lossOf 3 (some .int), Cond.methodLink RX2 179 yX2_requireForecast, Cond.static yX2_requireForecast, Cond.code yX2_requireForecast cX2_requireForecast 1 none, Cond.methodLink RX2 182 yX1_lossAfter, Cond.instanceMethod yX1_lossAfter, Cond.selects RX1 yX1_lossAfter yX1_lossAfter, Cond.code yX1_lossAfter cX1_lossAfter 7 (some .int), Cond.methodLink RL 203 yX3_lossOf, Cond.instanceMethod yX3_lossOf, Cond.selects RX3 yX3_lossOf yX3_lossOf, Cond.code yX3_lossOf cX3_lossOf 3 (some .int), Cond.methodLink RX3 112 yX3_loss, Cond.instanceMethod yX3_loss, Cond.selects RX3 yX3_loss yX3_loss, Cond.code yX3_loss cX3_loss 8 (some .int), Cond.methodLink RL 204 yL_goneAfter, Cond.static yL_goneAfter, Cond.codeWith yL_goneAfter cL_goneAfter 4 (some .int) [(0, 9, 12, 22)], Cond.methodLink RL 75 yX2_goneAfter]
def wsL_law0_r28 : List Cond := [Cond.instanceMethod yX2_goneAfter, Cond.selects RX2 yX2_goneAfter yX2_goneAfter, Cond.code yX2_goneAfter cX2_goneAfter 5 (some .int), Cond.methodLink RL 206 yX3_goneAfter, Cond.instanceMethod yX3_goneAfter, Cond.selects RX3 yX3_goneAfter yX3_goneAfter, Cond.code yX3_goneAfter cX3_goneAfter 5 (some .int), Cond.methodLink RL 207 yL_append, Cond.static yL_append, Cond.codeWith yL_append cL_append 4 (some .int) [(0, 9, 12, 22), (0, 9, 15, 13)], Cond.methodLink RL 78 yX2_append, Cond.instanceMethod yX2_append, Cond.selects RX2 yX2_append yX2_append, Cond.code yX2_append cX2_append 2 (some .int), Cond.fieldLink RX2 187 "DictationBelt$OrderText" "length" "I", Cond.methodLink RX2 192 yX0_add, Cond.instanceMethod yX0_add, Cond.selects RX0 yX0_add yX0_add, Cond.code yX0_add cX0_add 2 none, Cond.methodLink RL 209 yX3_append, Cond.instanceMethod yX3_append, Cond.selects RX3 yX3_append yX3_append, Cond.code yX3_append cX3_append 2 (some .int), Cond.fieldLink RX3 115 "DictationBeltModel" "length" "I"]
def wsL_law0_r29 : List Cond := [Cond.methodLink RL 210 yX2_clearText, Cond.instanceMethod yX2_clearText, Cond.selects RX2 yX2_clearText yX2_clearText, Cond.code yX2_clearText cX2_clearText 2 (some .int), Cond.methodLink RL 213 yX3_clearText, Cond.instanceMethod yX3_clearText, Cond.selects RX3 yX3_clearText yX3_clearText, Cond.code yX3_clearText cX3_clearText 2 (some .int), Cond.methodLink RL 214 yX2_firstError, Cond.instanceMethod yX2_firstError, Cond.selects RX2 yX2_firstError yX2_firstError, Cond.code yX2_firstError cX2_firstError 1 (some .int), Cond.methodLink RX2 195 yX0_errorIndex, Cond.instanceMethod yX0_errorIndex, Cond.selects RX0 yX0_errorIndex yX0_errorIndex, Cond.code yX0_errorIndex cX0_errorIndex 3 (some .int), Cond.methodLink RX0 27 yX0_stageAfter, Cond.static yX0_stageAfter, Cond.code yX0_stageAfter cX0_stageAfter 2 (some .int), Cond.methodLink RX0 31 yX0_stageAfterLetter, Cond.static yX0_stageAfterLetter, Cond.code yX0_stageAfterLetter cX0_stageAfterLetter 1 (some .int), Cond.methodLink RX0 35 yX0_isIn, Cond.static yX0_isIn]
def wsL_law0_r30 : List Cond := [Cond.code yX0_isIn cX0_isIn 3 (some .boolean), Cond.methodLink RX0 39 yX0_stageAfterFirstOfTimes, Cond.static yX0_stageAfterFirstOfTimes, Cond.code yX0_stageAfterFirstOfTimes cX0_stageAfterFirstOfTimes 1 (some .int), Cond.methodLink RL 217 yX3_firstError, Cond.instanceMethod yX3_firstError, Cond.selects RX3 yX3_firstError yX3_firstError, Cond.code yX3_firstError cX3_firstError 1 (some .int), Cond.fieldLink RX3 118 "DictationBeltModel" "at" "I", Cond.methodLink RX3 142 yX3_areOrders, Cond.instanceMethod yX3_areOrders, Cond.selects RX3 yX3_areOrders yX3_areOrders, Cond.code yX3_areOrders cX3_areOrders 1 (some .boolean), Cond.methodLink RX3 139 yX3_readsOrder, Cond.instanceMethod yX3_readsOrder, Cond.selects RX3 yX3_readsOrder yX3_readsOrder, Cond.code yX3_readsOrder cX3_readsOrder 1 (some .boolean), Cond.fieldLink RX3 124 "DictationBeltModel" "letter" "I", Cond.fieldLink RX3 133 "DictationBeltModel" "second" "I", Cond.fieldLink RX3 136 "DictationBeltModel" "first" "I", Cond.methodLink RX3 121 yX3_sign, Cond.instanceMethod yX3_sign, Cond.selects RX3 yX3_sign yX3_sign, Cond.code yX3_sign cX3_sign 1 (some .int)]
def wsL_law0_r31 : List Cond := [Cond.methodLink RX3 127 yX3_takes, Cond.instanceMethod yX3_takes, Cond.selects RX3 yX3_takes yX3_takes, Cond.code yX3_takes cX3_takes 3 (some .boolean), Cond.methodLink RX3 130 yX3_number, Cond.instanceMethod yX3_number, Cond.selects RX3 yX3_number yX3_number, Cond.code yX3_number cX3_number 4 (some .int), Cond.methodLink RL 218 yL_run, Cond.static yL_run, Cond.codeWith yL_run cL_run 3 (some .int) [(0, 8, 11, 22)], Cond.methodLink RL 81 yX2_run, Cond.instanceMethod yX2_run, Cond.selects RX2 yX2_run yX2_run, Cond.code yX2_run cX2_run 2 (some .int), Cond.methodLink RX2 198 yX0_isComplete, Cond.instanceMethod yX0_isComplete, Cond.selects RX0 yX0_isComplete yX0_isComplete, Cond.code yX0_isComplete cX0_isComplete 3 (some .boolean), Cond.methodLink RX2 203 yX2_obeyOrders, Cond.instanceMethod yX2_obeyOrders, Cond.selects RX2 yX2_obeyOrders yX2_obeyOrders, Cond.code yX2_obeyOrders cX2_obeyOrders 8 (some .int), Cond.methodLink RX2 260 Lib.Math.min.name]
def wsL_law0_r32 : List Cond := [Cond.static Lib.Math.min.name, Cond.code Lib.Math.min.name Lib.Math.min.code 2 (some .int), Cond.fieldLink RX2 265 "DictationBelt$OrderText" "codes" "[I", Cond.methodLink RX2 268 yX2_mayObey, Cond.instanceMethod yX2_mayObey, Cond.selects RX2 yX2_mayObey yX2_mayObey, Cond.code yX2_mayObey cX2_mayObey 4 (some .boolean), Cond.methodLink RX2 272 yX2_obey, Cond.instanceMethod yX2_obey, Cond.selects RX2 yX2_obey yX2_obey, Cond.code yX2_obey cX2_obey 4 none, Cond.methodLink RL 220 yX3_run, Cond.instanceMethod yX3_run, Cond.selects RX3 yX3_run yX3_run, Cond.code yX3_run cX3_run 2 (some .int), Cond.methodLink RX3 145 yX3_can, Cond.instanceMethod yX3_can, Cond.selects RX3 yX3_can yX3_can, Cond.code yX3_can cX3_can 1 (some .boolean), Cond.methodLink RX3 148 yX3_does, Cond.instanceMethod yX3_does, Cond.selects RX3 yX3_does yX3_does, Cond.code yX3_does cX3_does 2 none, Cond.methodLink RL 221 yL_undo]
def wsL_law0_r33 : List Cond := [Cond.static yL_undo, Cond.codeWith yL_undo cL_undo 3 (some .int) [(0, 8, 11, 13)], Cond.methodLink RL 84 yX2_undo, Cond.instanceMethod yX2_undo, Cond.selects RX2 yX2_undo yX2_undo, Cond.code yX2_undo cX2_undo 2 (some .int), Cond.methodLink RL 223 yX3_undo, Cond.instanceMethod yX3_undo, Cond.selects RX3 yX3_undo yX3_undo, Cond.code yX3_undo cX3_undo 1 (some .int), Cond.methodLink RL 224 yX2_savedStates, Cond.instanceMethod yX2_savedStates, Cond.selects RX2 yX2_savedStates yX2_savedStates, Cond.code yX2_savedStates cX2_savedStates 1 (some .int), Cond.methodLink RL 227 yX3_savedStates, Cond.instanceMethod yX3_savedStates, Cond.selects RX3 yX3_savedStates yX3_savedStates, Cond.code yX3_savedStates cX3_savedStates 1 (some .int), Cond.methodLink RL 228 yX2_digest, Cond.instanceMethod yX2_digest, Cond.selects RX2 yX2_digest yX2_digest, Cond.code yX2_digest cX2_digest 4 (some .long), Cond.constantLong RX2 216 (4444), Cond.methodLink RX2 218 yX2_recordings]
def wsL_law0_r34 : List Cond := [Cond.methodLink RX2 221 yX2_mixed, Cond.static yX2_mixed, Cond.code yX2_mixed cX2_mixed 4 (some .long), Cond.constantLong RX2 258 (31), Cond.methodLink RX2 225 yX2_running, Cond.methodLink RX2 228 yX2_head, Cond.methodLink RX2 230 yX2_free, Cond.methodLink RX2 233 yX2_spoken, Cond.methodLink RX2 235 yX2_gone, Cond.methodLink RX2 237 yX2_playing, Cond.methodLink RX2 240 yX2_place, Cond.methodLink RX2 242 yX2_corrected, Cond.methodLink RX2 245 yX2_room, Cond.methodLink RX2 248 yX2_nextLoser, Cond.methodLink RX2 251 yX2_withRecording, Cond.instanceMethod yX2_withRecording, Cond.selects RX2 yX2_withRecording yX2_withRecording, Cond.code yX2_withRecording cX2_withRecording 8 (some .long), Cond.fieldLink RX2 255 "DictationBelt$State" "order" "[I", Cond.methodLink RL 232 yX3_digest, Cond.instanceMethod yX3_digest, Cond.selects RX3 yX3_digest yX3_digest, Cond.code yX3_digest cX3_digest 5 (some .long), Cond.constantLong RX3 157 (4444)]
def wsL_law0_r35 : List Cond := [Cond.fieldLink RX3 153 "DictationBeltModel" "hash" "J", Cond.methodLink RX3 159 yX3_mix, Cond.instanceMethod yX3_mix, Cond.selects RX3 yX3_mix yX3_mix, Cond.code yX3_mix cX3_mix 3 none, Cond.constantLong RX3 151 (31)]
def wsL_law0 : List Cond := (wsL_law0_r1 ++ (wsL_law0_r2 ++ (wsL_law0_r3 ++ (wsL_law0_r4 ++ (wsL_law0_r5 ++ (wsL_law0_r6 ++ (wsL_law0_r7 ++ (wsL_law0_r8 ++ (wsL_law0_r9 ++ (wsL_law0_r10 ++ (wsL_law0_r11 ++ (wsL_law0_r12 ++ (wsL_law0_r13 ++ (wsL_law0_r14 ++ (wsL_law0_r15 ++ (wsL_law0_r16 ++ (wsL_law0_r17 ++ (wsL_law0_r18 ++ (wsL_law0_r19 ++ (wsL_law0_r20 ++ (wsL_law0_r21 ++ (wsL_law0_r22 ++ (wsL_law0_r23 ++ (wsL_law0_r24 ++ (wsL_law0_r25 ++ (wsL_law0_r26 ++ (wsL_law0_r27 ++ (wsL_law0_r28 ++ (wsL_law0_r29 ++ (wsL_law0_r30 ++ (wsL_law0_r31 ++ (wsL_law0_r32 ++ (wsL_law0_r33 ++ (wsL_law0_r34 ++ wsL_law0_r35)))))))))))))))))))))))))))))))))) ++ wsX20 ++ wsX30 ++ wsX10 ++ wsX00 ++ ([] : List Cond)
def wsL_law : List Cond := wsL_law0 ++ (vx_atS RX2 42 "java/lang/IllegalStateException" ["java/lang/RuntimeException", "java/lang/Exception"]).filter goodWord ++ (vx_atS RX2 153 "java/lang/IllegalArgumentException" ["java/lang/RuntimeException", "java/lang/Exception"]).filter goodWord ++ (vx_atS RX2 283 "java/lang/IndexOutOfBoundsException" ["java/lang/RuntimeException", "java/lang/Exception"]).filter goodWord
set_option maxRecDepth 20000 in
theorem wsL_law0_r1_in : ∀ w ∈ wsL_law0_r1, w ∈ lw_tbl := fun w h => (goodIn_p wsL_law0_r1 [59, 62] (by decide +kernel) (by decide +kernel) w h).1
set_option maxRecDepth 20000 in
theorem wsL_law0_r2_in : ∀ w ∈ wsL_law0_r2, w ∈ lw_tbl := fun w h => (goodIn_p wsL_law0_r2 [67, 131] (by decide +kernel) (by decide +kernel) w h).1
set_option maxRecDepth 20000 in
theorem wsL_law0_r3_in : ∀ w ∈ wsL_law0_r3, w ∈ lw_tbl := fun w h => (goodIn_p wsL_law0_r3 [718, 304, 308] (by decide +kernel) (by decide +kernel) w h).1
set_option maxRecDepth 20000 in
theorem wsL_law0_r4_in : ∀ w ∈ wsL_law0_r4, w ∈ lw_tbl := fun w h => (goodIn_p wsL_law0_r4 [169, 291, 209, 381, 385, 389] (by decide +kernel) (by decide +kernel) w h).1
set_option maxRecDepth 20000 in
theorem wsL_law0_r5_in : ∀ w ∈ wsL_law0_r5, w ∈ lw_tbl := fun w h => (goodIn_p wsL_law0_r5 [396, 400, 404, 407, 758, 762] (by decide +kernel) (by decide +kernel) w h).1
set_option maxRecDepth 20000 in
theorem wsL_law0_r6_in : ∀ w ∈ wsL_law0_r6, w ∈ lw_tbl := fun w h => (goodIn_p wsL_law0_r6 [766, 770, 774, 778, 782, 786] (by decide +kernel) (by decide +kernel) w h).1
set_option maxRecDepth 20000 in
theorem wsL_law0_r7_in : ∀ w ∈ wsL_law0_r7, w ∈ lw_tbl := fun w h => (goodIn_p wsL_law0_r7 [790, 754, 414, 794] (by decide +kernel) (by decide +kernel) w h).1
set_option maxRecDepth 20000 in
theorem wsL_law0_r8_in : ∀ w ∈ wsL_law0_r8, w ∈ lw_tbl := fun w h => (goodIn_p wsL_law0_r8 [424, 427, 447, 217, 221] (by decide +kernel) (by decide +kernel) w h).1
set_option maxRecDepth 20000 in
theorem wsL_law0_r9_in : ∀ w ∈ wsL_law0_r9, w ∈ lw_tbl := fun w h => (goodIn_p wsL_law0_r9 [453, 457, 234, 461, 465, 469] (by decide +kernel) (by decide +kernel) w h).1
set_option maxRecDepth 20000 in
theorem wsL_law0_r10_in : ∀ w ∈ wsL_law0_r10, w ∈ lw_tbl := fun w h => (goodIn_p wsL_law0_r10 [473, 798, 801, 804, 808, 812, 816] (by decide +kernel) (by decide +kernel) w h).1
set_option maxRecDepth 20000 in
theorem wsL_law0_r11_in : ∀ w ∈ wsL_law0_r11, w ∈ lw_tbl := fun w h => (goodIn_p wsL_law0_r11 [820, 824, 828, 481, 485] (by decide +kernel) (by decide +kernel) w h).1
set_option maxRecDepth 20000 in
theorem wsL_law0_r12_in : ∀ w ∈ wsL_law0_r12, w ∈ lw_tbl := fun w h => (goodIn_p wsL_law0_r12 [489, 295, 509, 832, 836] (by decide +kernel) (by decide +kernel) w h).1
set_option maxRecDepth 20000 in
theorem wsL_law0_r13_in : ∀ w ∈ wsL_law0_r13, w ∈ lw_tbl := fun w h => (goodIn_p wsL_law0_r13 [516, 521, 840, 528, 531] (by decide +kernel) (by decide +kernel) w h).1
set_option maxRecDepth 20000 in
theorem wsL_law0_r14_in : ∀ w ∈ wsL_law0_r14, w ∈ lw_tbl := fun w h => (goodIn_p wsL_law0_r14 [844, 847, 161, 851, 855, 165] (by decide +kernel) (by decide +kernel) w h).1
set_option maxRecDepth 20000 in
theorem wsL_law0_r15_in : ∀ w ∈ wsL_law0_r15, w ∈ lw_tbl := fun w h => (goodIn_p wsL_law0_r15 [859, 173, 863, 540] (by decide +kernel) (by decide +kernel) w h).1
set_option maxRecDepth 20000 in
theorem wsL_law0_r16_in : ∀ w ∈ wsL_law0_r16, w ∈ lw_tbl := fun w h => (goodIn_p wsL_law0_r16 [867, 547, 551, 556, 871] (by decide +kernel) (by decide +kernel) w h).1
set_option maxRecDepth 20000 in
theorem wsL_law0_r17_in : ∀ w ∈ wsL_law0_r17, w ∈ lw_tbl := fun w h => (goodIn_p wsL_law0_r17 [875, 879, 563, 883, 570] (by decide +kernel) (by decide +kernel) w h).1
set_option maxRecDepth 20000 in
theorem wsL_law0_r18_in : ∀ w ∈ wsL_law0_r18, w ∈ lw_tbl := fun w h => (goodIn_p wsL_law0_r18 [887, 577, 891, 584] (by decide +kernel) (by decide +kernel) w h).1
set_option maxRecDepth 20000 in
theorem wsL_law0_r19_in : ∀ w ∈ wsL_law0_r19, w ∈ lw_tbl := fun w h => (goodIn_p wsL_law0_r19 [895, 177, 899, 181, 903] (by decide +kernel) (by decide +kernel) w h).1
set_option maxRecDepth 20000 in
theorem wsL_law0_r20_in : ∀ w ∈ wsL_law0_r20, w ∈ lw_tbl := fun w h => (goodIn_p wsL_law0_r20 [185, 907, 189, 911, 591] (by decide +kernel) (by decide +kernel) w h).1
set_option maxRecDepth 20000 in
theorem wsL_law0_r21_in : ∀ w ∈ wsL_law0_r21, w ∈ lw_tbl := fun w h => (goodIn_p wsL_law0_r21 [595, 916, 920, 602, 606] (by decide +kernel) (by decide +kernel) w h).1
set_option maxRecDepth 20000 in
theorem wsL_law0_r22_in : ∀ w ∈ wsL_law0_r22, w ∈ lw_tbl := fun w h => (goodIn_p wsL_law0_r22 [611, 924, 928, 619, 624] (by decide +kernel) (by decide +kernel) w h).1
set_option maxRecDepth 20000 in
theorem wsL_law0_r23_in : ∀ w ∈ wsL_law0_r23, w ∈ lw_tbl := fun w h => (goodIn_p wsL_law0_r23 [627, 932, 936, 194, 940, 198] (by decide +kernel) (by decide +kernel) w h).1
set_option maxRecDepth 20000 in
theorem wsL_law0_r24_in : ∀ w ∈ wsL_law0_r24, w ∈ lw_tbl := fun w h => (goodIn_p wsL_law0_r24 [944, 634, 948, 642] (by decide +kernel) (by decide +kernel) w h).1
set_option maxRecDepth 20000 in
theorem wsL_law0_r25_in : ∀ w ∈ wsL_law0_r25, w ∈ lw_tbl := fun w h => (goodIn_p wsL_law0_r25 [952, 202, 206, 956, 960] (by decide +kernel) (by decide +kernel) w h).1
set_option maxRecDepth 20000 in
theorem wsL_law0_r26_in : ∀ w ∈ wsL_law0_r26, w ∈ lw_tbl := fun w h => (goodIn_p wsL_law0_r26 [213, 964, 226, 230, 968, 972] (by decide +kernel) (by decide +kernel) w h).1
set_option maxRecDepth 20000 in
theorem wsL_law0_r27_in : ∀ w ∈ wsL_law0_r27, w ∈ lw_tbl := fun w h => (goodIn_p wsL_law0_r27 [649, 652, 657, 976, 980] (by decide +kernel) (by decide +kernel) w h).1
set_option maxRecDepth 20000 in
theorem wsL_law0_r28_in : ∀ w ∈ wsL_law0_r28, w ∈ lw_tbl := fun w h => (goodIn_p wsL_law0_r28 [664, 984, 671, 677, 988] (by decide +kernel) (by decide +kernel) w h).1
set_option maxRecDepth 20000 in
theorem wsL_law0_r29_in : ∀ w ∈ wsL_law0_r29, w ∈ lw_tbl := fun w h => (goodIn_p wsL_law0_r29 [238, 992, 242, 246, 250, 253] (by decide +kernel) (by decide +kernel) w h).1
set_option maxRecDepth 20000 in
theorem wsL_law0_r30_in : ∀ w ∈ wsL_law0_r30, w ∈ lw_tbl := fun w h => (goodIn_p wsL_law0_r30 [256, 259, 996, 1000, 1004, 1008] (by decide +kernel) (by decide +kernel) w h).1
set_option maxRecDepth 20000 in
theorem wsL_law0_r31_in : ∀ w ∈ wsL_law0_r31, w ∈ lw_tbl := fun w h => (goodIn_p wsL_law0_r31 [1012, 1016, 685, 689, 694] (by decide +kernel) (by decide +kernel) w h).1
set_option maxRecDepth 20000 in
theorem wsL_law0_r32_in : ∀ w ∈ wsL_law0_r32, w ∈ lw_tbl := fun w h => (goodIn_p wsL_law0_r32 [697, 701, 705, 1020, 1024, 1028] (by decide +kernel) (by decide +kernel) w h).1
set_option maxRecDepth 20000 in
theorem wsL_law0_r33_in : ∀ w ∈ wsL_law0_r33, w ∈ lw_tbl := fun w h => (goodIn_p wsL_law0_r33 [712, 1032, 263, 1036, 267] (by decide +kernel) (by decide +kernel) w h).1
set_option maxRecDepth 20000 in
theorem wsL_law0_r34_in : ∀ w ∈ wsL_law0_r34, w ∈ lw_tbl := fun w h => (goodIn_p wsL_law0_r34 [272, 287, 1040] (by decide +kernel) (by decide +kernel) w h).1
set_option maxRecDepth 20000 in
theorem wsL_law0_r35_in : ∀ w ∈ wsL_law0_r35, w ∈ lw_tbl := fun w h => (goodIn_p wsL_law0_r35 [1045] (by decide +kernel) (by decide +kernel) w h).1
set_option maxRecDepth 20000 in
theorem wsX20_in : ∀ w ∈ wsX20, w ∈ lw_tbl := by decide +kernel
set_option maxRecDepth 20000 in
theorem wsX30_in : ∀ w ∈ wsX30, w ∈ lw_tbl := by decide +kernel
set_option maxRecDepth 20000 in
theorem wsX10_in : ∀ w ∈ wsX10, w ∈ lw_tbl := by decide +kernel
set_option maxRecDepth 20000 in
theorem wsX00_in : ∀ w ∈ wsX00, w ∈ lw_tbl := by decide +kernel
theorem wsL_law_in0 : ∀ w ∈ wsL_law0, w ∈ lw_tbl := List.forall_mem_append.mpr ⟨List.forall_mem_append.mpr ⟨List.forall_mem_append.mpr ⟨List.forall_mem_append.mpr ⟨List.forall_mem_append.mpr ⟨List.forall_mem_append.mpr ⟨wsL_law0_r1_in, List.forall_mem_append.mpr ⟨wsL_law0_r2_in, List.forall_mem_append.mpr ⟨wsL_law0_r3_in, List.forall_mem_append.mpr ⟨wsL_law0_r4_in, List.forall_mem_append.mpr ⟨wsL_law0_r5_in, List.forall_mem_append.mpr ⟨wsL_law0_r6_in, List.forall_mem_append.mpr ⟨wsL_law0_r7_in, List.forall_mem_append.mpr ⟨wsL_law0_r8_in, List.forall_mem_append.mpr ⟨wsL_law0_r9_in, List.forall_mem_append.mpr ⟨wsL_law0_r10_in, List.forall_mem_append.mpr ⟨wsL_law0_r11_in, List.forall_mem_append.mpr ⟨wsL_law0_r12_in, List.forall_mem_append.mpr ⟨wsL_law0_r13_in, List.forall_mem_append.mpr ⟨wsL_law0_r14_in, List.forall_mem_append.mpr ⟨wsL_law0_r15_in, List.forall_mem_append.mpr ⟨wsL_law0_r16_in, List.forall_mem_append.mpr ⟨wsL_law0_r17_in, List.forall_mem_append.mpr ⟨wsL_law0_r18_in, List.forall_mem_append.mpr ⟨wsL_law0_r19_in, List.forall_mem_append.mpr ⟨wsL_law0_r20_in, List.forall_mem_append.mpr ⟨wsL_law0_r21_in, List.forall_mem_append.mpr ⟨wsL_law0_r22_in, List.forall_mem_append.mpr ⟨wsL_law0_r23_in, List.forall_mem_append.mpr ⟨wsL_law0_r24_in, List.forall_mem_append.mpr ⟨wsL_law0_r25_in, List.forall_mem_append.mpr ⟨wsL_law0_r26_in, List.forall_mem_append.mpr ⟨wsL_law0_r27_in, List.forall_mem_append.mpr ⟨wsL_law0_r28_in, List.forall_mem_append.mpr ⟨wsL_law0_r29_in, List.forall_mem_append.mpr ⟨wsL_law0_r30_in, List.forall_mem_append.mpr ⟨wsL_law0_r31_in, List.forall_mem_append.mpr ⟨wsL_law0_r32_in, List.forall_mem_append.mpr ⟨wsL_law0_r33_in, List.forall_mem_append.mpr ⟨wsL_law0_r34_in, wsL_law0_r35_in⟩⟩⟩⟩⟩⟩⟩⟩⟩⟩⟩⟩⟩⟩⟩⟩⟩⟩⟩⟩⟩⟩⟩⟩⟩⟩⟩⟩⟩⟩⟩⟩⟩⟩, wsX20_in⟩, wsX30_in⟩, wsX10_in⟩, wsX00_in⟩, fun _ h => absurd h List.not_mem_nil⟩
theorem wsL_law_x0 : ∀ w ∈ (vx_atS RX2 42 "java/lang/IllegalStateException" ["java/lang/RuntimeException", "java/lang/Exception"]).filter goodWord, w ∈ lw_tbl := by decide +kernel
theorem wsL_law_x1 : ∀ w ∈ (vx_atS RX2 153 "java/lang/IllegalArgumentException" ["java/lang/RuntimeException", "java/lang/Exception"]).filter goodWord, w ∈ lw_tbl := by decide +kernel
theorem wsL_law_x2 : ∀ w ∈ (vx_atS RX2 283 "java/lang/IndexOutOfBoundsException" ["java/lang/RuntimeException", "java/lang/Exception"]).filter goodWord, w ∈ lw_tbl := by decide +kernel
theorem wsL_law_in : ∀ w ∈ wsL_law, w ∈ lw_tbl := fun w h => (List.mem_append.mp h).elim (fun h => (List.mem_append.mp h).elim (fun h => (List.mem_append.mp h).elim (fun h => wsL_law_in0 w h) (fun h => wsL_law_x0 w h)) (fun h => wsL_law_x1 w h)) (fun h => wsL_law_x2 w h)
theorem inlX0 : ∀ w ∈ wsX00, w ∈ wsL_law := fun _ h => List.mem_append_left _ (List.mem_append_left _ (List.mem_append_left _ (List.mem_append_left _ (List.mem_append_right _ h))))
theorem inX0 : ∀ w ∈ wsX00, w ∈ lw_tbl := fun w h => wsL_law_in w (inlX0 w h)
theorem inlX1 : ∀ w ∈ wsX10, w ∈ wsL_law := fun _ h => List.mem_append_left _ (List.mem_append_left _ (List.mem_append_left _ (List.mem_append_left _ (List.mem_append_left _ (List.mem_append_right _ h)))))
theorem inX1 : ∀ w ∈ wsX10, w ∈ lw_tbl := fun w h => wsL_law_in w (inlX1 w h)
theorem inlX2 : ∀ w ∈ wsX20, w ∈ wsL_law := fun _ h => List.mem_append_left _ (List.mem_append_left _ (List.mem_append_left _ (List.mem_append_left _ (List.mem_append_left _ (List.mem_append_left _ (List.mem_append_left _ (List.mem_append_right _ h)))))))
theorem inX2 : ∀ w ∈ wsX20, w ∈ lw_tbl := fun w h => wsL_law_in w (inlX2 w h)
theorem inlX3 : ∀ w ∈ wsX30, w ∈ wsL_law := fun _ h => List.mem_append_left _ (List.mem_append_left _ (List.mem_append_left _ (List.mem_append_left _ (List.mem_append_left _ (List.mem_append_left _ (List.mem_append_right _ h))))))
theorem inX3 : ∀ w ∈ wsX30, w ∈ lw_tbl := fun w h => wsL_law_in w (inlX3 w h)
theorem inJ9 : ∀ w ∈ wsJ90, w ∈ lw_tbl := by decide +kernel
theorem inJ0 : ∀ w ∈ wsJ00, w ∈ lw_tbl := by decide +kernel
theorem inJ10 : ∀ w ∈ wsJ100, w ∈ lw_tbl := by decide +kernel
abbrev vwCl : List vw_C := [(RX0, TX0, 2), (RX1, TX1, 14), (RX2, TX2, 5), (RX3, TX3, 10)]
end
section
/-! THE LAYER: one word list for all methods, one judgement X over a context, the rows of the kit lifted to it; words for the code that is read out of the bytecode -/
abbrev GW : List Cond := wsL_law
set_option maxRecDepth 100000 in
theorem gw_good : wsL_law.all goodWord = true := by decide +kernel
theorem gw_self : GoodIn GW GW := goodIn_sub (fun _ h => h) gw_good
theorem gw_app (ws : List Cond) (ps : List Nat) (hp : ws = ps.filterMap (fun i => GW[i]?)) (h : ws.all goodWord = true) : GoodIn GW (ws ++ GW) := goodIn_app (goodIn_r ws ps hp h) gw_self
/-- the classes of the arrays: of ints, of longs, of states -/
abbrev CS : Type := ClassId × ClassId × ClassId
abbrev TY (cs : CS) : List (ClassId × FieldType) := [(cs.1, .int), (cs.2.1, .long), (cs.2.2, .object RX1)]
def nestW : List Cond := [.methodLinkNest RX1 62 yX2_valueAt RX2, .methodLinkNest RX1 66 yX2_putAt RX2, .methodLinkNest RX0 23 yX2_valueAt RX2, .methodLinkNest RX0 19 yX2_putAt RX2]
/-- the tables' facts that each callee is handed -/
def KN (D : va_G) (cs : CS) (U : State) : Prop := va_K D vwCl (TY cs) U ∧ ∀ w ∈ nestW, va_Nw w U
theorem nest_shape {w : Cond} (h : w ∈ nestW) : ∃ (a : String) (i : Nat) (x : MethodName) (b : String), w = .methodLinkNest a i x b := by
  simp only [nestW, List.mem_cons, List.not_mem_nil, or_false] at h
  rcases h with h | h | h | h <;> exact ⟨_, _, _, _, h⟩
theorem KN.warm {D : va_G} {cs : CS} {s U : State} (hW : s.WarmedH U.vm) (h : KN D cs s) : KN D cs U := by
  refine ⟨va_K.moved hW.alike h.1, fun w hw => ?_⟩
  obtain ⟨a, i, x, b, rfl⟩ := nest_shape hw
  exact va_Nw.warmM hW (h.2 _ hw)
theorem KN.same {D : va_G} {cs : CS} {s U : State} (hv : s.vm = U.vm) (h : KN D cs s) : KN D cs U := by
  refine ⟨va_K.moved (by rw [hv]; exact Vm.Alike.refl U.vm) h.1, fun w hw => ?_⟩
  obtain ⟨a, i, x, b, rfl⟩ := nest_shape hw
  exact va_Nw.same rfl hv (h.2 _ hw)
/-- what a walk stands in: the program, launch, .. , the end to reach, the cells that may be written, the classes -/
abbrev Ctx : Type := Program × Launch × Env × Room × State × MethodId × Array Value × List Frame × Method × Code × (State → Prop) × (Nat → Prop) × va_G × CS
abbrev Ctx.l (Γ : Ctx) : Launch := Γ.2.1
abbrev Ctx.D (Γ : Ctx) : va_G := Γ.2.2.2.2.2.2.2.2.2.2.2.2.1
abbrev Ctx.cs (Γ : Ctx) : CS := Γ.2.2.2.2.2.2.2.2.2.2.2.2.2
/-- the frame at pc, with the locals lv, the stack st, in the world ws, reaches its end; k cells of n slots were made so far -/
def X (Γ : Ctx) (nL k n pc : Nat) (lv : List (Nat × Value)) (st : List Value) (ws : va_W) : Prop := match Γ with
  | (p, l, e, R, s, m, args, below, meth, c, Q, A, D, _) => ∀ (H : Heap) (locs : List Loc) (ls : Array Slot), va_P D vwCl ws H → va_D A ws → va_S A s.heap H locs → lv_has ls nL lv → W p l e R s m args below meth c H locs k n Q (F0 m pc ls st)
/-- the method's own facts: its code, locals, class, room -/
def CX (Γ : Ctx) (cc : ByteArray) (nL : Nat) (own : String) (R0 : Room) : Prop := match Γ with
  | (p, _, _, R, s, m, args, _, meth, c, _, A, D, cs) => CallFix p m c cc nL s args GW own ∧ KN D cs s ∧ (∀ q, s.heap.size ≤ q → A q) ∧ meth.locks = false ∧ R = R0
/-! words of the code read out -/
def nm {α β : Type} (k : α → β) (x : α) : β := k x
def bd {α β : Type} (o : Option α) (k : α → Option β) : Option β := match o with
  | none => none
  | some a => k a
def bd2 {α γ β : Type} (o : Option (α × γ)) (k : α → γ → Option β) : Option β := match o with
  | none => none
  | some q => k q.1 q.2
def gd {β : Type} (i : Int32) (n : Nat) (a : Option β) : Option β := if i < 0 ∨ n ≤ i.toNatClampNeg then none else a
def zb {β : Type} (r : Int32) (a : Option β) : Option β := if r = 0 ∨ r = 1 then a else none
def nz {β : Type} (r : Int32) (a : Option β) : Option β := if r = 0 then none else a
theorem nm_elim {α β : Type} {k : α → Option β} {x : α} {r : β} (h : nm k x = some r) : ∃ y, y = x ∧ k y = some r := ⟨x, rfl, h⟩
theorem bd_elim {α β : Type} {o : Option α} {k : α → Option β} {r : β} (h : bd o k = some r) : ∃ a, o = some a ∧ k a = some r := by
  cases o with
  | none => cases h
  | some a => exact ⟨a, rfl, h⟩
theorem bd2_elim {α γ β : Type} {o : Option (α × γ)} {k : α → γ → Option β} {r : β} (h : bd2 o k = some r) : ∃ a b, o = some (a, b) ∧ k a b = some r := by
  cases o with
  | none => cases h
  | some q => exact ⟨q.1, q.2, rfl, h⟩
theorem gd_elim {β : Type} {i : Int32} {n : Nat} {a : Option β} {r : β} (h : gd i n a = some r) : vp_in i n ∧ a = some r := by
  unfold gd at h
  split at h
  · cases h
  · exact ⟨by assumption, h⟩
theorem zb_elim {β : Type} {i : Int32} {a : Option β} {r : β} (h : zb i a = some r) : (i = 0 ∨ i = 1) ∧ a = some r := by
  unfold zb at h
  split at h
  · exact ⟨by assumption, h⟩
  · cases h
theorem nz_elim {β : Type} {i : Int32} {a : Option β} {r : β} (h : nz i a = some r) : ¬ i = 0 ∧ a = some r := by
  unfold nz at h
  split at h
  · cases h
  · exact ⟨by assumption, h⟩
theorem ite_t {β : Type} {c : Prop} [Decidable c] {a b : Option β} {r : β} (hc : c) (h : (if c then a else b) = some r) : a = some r := by rwa [if_pos hc] at h
theorem ite_f {β : Type} {c : Prop} [Decidable c] {a b : Option β} {r : β} (hc : ¬ c) (h : (if c then a else b) = some r) : b = some r := by rwa [if_neg hc] at h
theorem some2 {α γ : Type} {a a' : α} {b b' : γ} (h : some (a, b) = some (a', b')) : a = a' ∧ b = b' := by cases h; exact ⟨rfl, rfl⟩
theorem zb_nar {r : Int32} (h : r = 0 ∨ r = 1) : narrow .boolean (.int r) = .int r := by rcases h with rfl | rfl <;> rfl
def up2 {α : Type} (f : Nat → Nat → α) (j : Nat) (g : Nat → α) : Nat → Nat → α := fun i => if i = j then g else f i
/-- valueAt and putAt -/
def vAt (N : Nat) (f : Nat → Int32) (i : Int32) : Int32 := if i < 0 then -1 else if nI N ≤ i then -1 else f i.toNatClampNeg
def pAt (N : Nat) (f : Nat → Int32) (i v : Int32) : Nat → Int32 := if i < 0 then f else if nI N ≤ i then f else upd f i.toNatClampNeg v
end
section
section ROWS2
variable {Γ : Ctx} {cc : ByteArray} {nL k n pc pc' : Nat} {own : String} {R0 : Room} {lv lv' : List (Nat × Value)} {st : List Value} {ws : va_W}
theorem x_iconst (B : CX Γ cc nL own R0) {i : Int} (v : Int32) (d : decode cc pc = .ok (.iconst i, 1)) (hv : Int32.ofInt i = v) (hp : pc + 1 = pc') (kk : X Γ nL k n pc' lv (.int v :: st) ws) : X Γ nL k n pc lv st ws := by
  obtain ⟨p, l, e, R, s, m, args, below, meth, c, Q, A, D, cs⟩ := Γ
  subst hp
  intro H locs ls hP hD hS hl
  exact lv_iconst B.1.1 B.1.2.1 d hv (kk H locs ls hP hD hS hl)
theorem x_bipush (B : CX Γ cc nL own R0) {i : Int} (v : Int32) (d : decode cc pc = .ok (.bipush i, 2)) (hv : (Int8.ofInt i).toInt32 = v) (hp : pc + 2 = pc') (kk : X Γ nL k n pc' lv (.int v :: st) ws) : X Γ nL k n pc lv st ws := by
  obtain ⟨p, l, e, R, s, m, args, below, meth, c, Q, A, D, cs⟩ := Γ
  subst hp
  intro H locs ls hP hD hS hl
  exact lv_bipush B.1.1 B.1.2.1 d hv (kk H locs ls hP hD hS hl)
theorem x_sipush (B : CX Γ cc nL own R0) {i : Int} (v : Int32) (d : decode cc pc = .ok (.sipush i, 3)) (hv : (Int16.ofInt i).toInt32 = v) (hp : pc + 3 = pc') (kk : X Γ nL k n pc' lv (.int v :: st) ws) : X Γ nL k n pc lv st ws := by
  obtain ⟨p, l, e, R, s, m, args, below, meth, c, Q, A, D, cs⟩ := Γ
  subst hp
  intro H locs ls hP hD hS hl
  exact lv_sipush B.1.1 B.1.2.1 d hv (kk H locs ls hP hD hS hl)
theorem x_lconst (B : CX Γ cc nL own R0) {i : Fin 2} (v : Int64) (d : decode cc pc = .ok (.lconst i, 1)) (hv : Int64.ofNat (i : Nat) = v) (hp : pc + 1 = pc') (kk : X Γ nL k n pc' lv (.long v :: st) ws) : X Γ nL k n pc lv st ws := by
  obtain ⟨p, l, e, R, s, m, args, below, meth, c, Q, A, D, cs⟩ := Γ
  subst hp
  intro H locs ls hP hD hS hl
  exact lv_lconst B.1.1 B.1.2.1 d hv (kk H locs ls hP hD hS hl)
theorem x_ldc2 (B : CX Γ cc nL own R0) {index : Nat} (v : Int64) (hw : Cond.constantLong own index v ∈ GW) (d : decode cc pc = .ok (.ldc2_w index, 3)) (hp : pc + 3 = pc') (kk : X Γ nL k n pc' lv (.long v :: st) ws) : X Γ nL k n pc lv st ws := by
  obtain ⟨p, l, e, R, s, m, args, below, meth, c, Q, A, D, cs⟩ := Γ
  subst hp
  intro H locs ls hP hD hS hl
  exact lv_ldc2 B.1.1 B.1.2.1 B.1.2.2.2.1 (B.1.2.2.2.2 _ hw) d (kk H locs ls hP hD hS hl)
theorem x_ldc2d (B : CX Γ cc nL own R0) {index : Nat} (v : UInt64) (hw : Cond.constantDouble own index v ∈ GW) (d : decode cc pc = .ok (.ldc2_w index, 3)) (hp : pc + 3 = pc') (kk : X Γ nL k n pc' lv (.double v :: st) ws) : X Γ nL k n pc lv st ws := by
  obtain ⟨p, l, e, R, s, m, args, below, meth, c, Q, A, D, cs⟩ := Γ
  subst hp
  intro H locs ls hP hD hS hl
  exact lv_ldc2d B.1.1 B.1.2.1 B.1.2.2.2.1 (B.1.2.2.2.2 _ hw) d (kk H locs ls hP hD hS hl)
theorem x_iload_n (B : CX Γ cc nL own R0) {f : Fin 4} {i : Nat} {x : Int32} (j : Nat) (d : decode cc pc = .ok (.iload_n f, 1)) (hi : (f : Nat) = i) (hj : lv[j]? = some (i, .int x)) (hp : pc + 1 = pc') (kk : X Γ nL k n pc' lv (.int x :: st) ws) : X Γ nL k n pc lv st ws := by
  obtain ⟨p, l, e, R, s, m, args, below, meth, c, Q, A, D, cs⟩ := Γ
  subst hp
  intro H locs ls hP hD hS hl
  exact lv_iload_n B.1.1 B.1.2.1 d hi (lv_at hl j hj) (kk H locs ls hP hD hS hl)
theorem x_iload (B : CX Γ cc nL own R0) {i : Nat} {x : Int32} (j : Nat) (d : decode cc pc = .ok (.iload i, 2)) (hj : lv[j]? = some (i, .int x)) (hp : pc + 2 = pc') (kk : X Γ nL k n pc' lv (.int x :: st) ws) : X Γ nL k n pc lv st ws := by
  obtain ⟨p, l, e, R, s, m, args, below, meth, c, Q, A, D, cs⟩ := Γ
  subst hp
  intro H locs ls hP hD hS hl
  exact lv_iload B.1.1 B.1.2.1 d (lv_at hl j hj) (kk H locs ls hP hD hS hl)
theorem x_lload_n (B : CX Γ cc nL own R0) {f : Fin 4} {i : Nat} {x : Int64} (j : Nat) (d : decode cc pc = .ok (.lload_n f, 1)) (hi : (f : Nat) = i) (hj : lv[j]? = some (i, .long x)) (hp : pc + 1 = pc') (kk : X Γ nL k n pc' lv (.long x :: st) ws) : X Γ nL k n pc lv st ws := by
  obtain ⟨p, l, e, R, s, m, args, below, meth, c, Q, A, D, cs⟩ := Γ
  subst hp
  intro H locs ls hP hD hS hl
  exact lv_lload_n B.1.1 B.1.2.1 d hi (lv_at hl j hj) (kk H locs ls hP hD hS hl)
theorem x_lload (B : CX Γ cc nL own R0) {i : Nat} {x : Int64} (j : Nat) (d : decode cc pc = .ok (.lload i, 2)) (hj : lv[j]? = some (i, .long x)) (hp : pc + 2 = pc') (kk : X Γ nL k n pc' lv (.long x :: st) ws) : X Γ nL k n pc lv st ws := by
  obtain ⟨p, l, e, R, s, m, args, below, meth, c, Q, A, D, cs⟩ := Γ
  subst hp
  intro H locs ls hP hD hS hl
  exact lv_lload B.1.1 B.1.2.1 d (lv_at hl j hj) (kk H locs ls hP hD hS hl)
theorem x_aload_n (B : CX Γ cc nL own R0) {f : Fin 4} {i : Nat} {x : Nat} (j : Nat) (d : decode cc pc = .ok (.aload_n f, 1)) (hi : (f : Nat) = i) (hj : lv[j]? = some (i, .ref x)) (hp : pc + 1 = pc') (kk : X Γ nL k n pc' lv (.ref x :: st) ws) : X Γ nL k n pc lv st ws := by
  obtain ⟨p, l, e, R, s, m, args, below, meth, c, Q, A, D, cs⟩ := Γ
  subst hp
  intro H locs ls hP hD hS hl
  exact lv_aload_n B.1.1 B.1.2.1 d hi (lv_at hl j hj) (kk H locs ls hP hD hS hl)
theorem x_aload (B : CX Γ cc nL own R0) {i : Nat} {x : Nat} (j : Nat) (d : decode cc pc = .ok (.aload i, 2)) (hj : lv[j]? = some (i, .ref x)) (hp : pc + 2 = pc') (kk : X Γ nL k n pc' lv (.ref x :: st) ws) : X Γ nL k n pc lv st ws := by
  obtain ⟨p, l, e, R, s, m, args, below, meth, c, Q, A, D, cs⟩ := Γ
  subst hp
  intro H locs ls hP hD hS hl
  exact lv_aload B.1.1 B.1.2.1 d (lv_at hl j hj) (kk H locs ls hP hD hS hl)
theorem x_istore_n (B : CX Γ cc nL own R0) {f : Fin 4} {i : Nat} {x : Int32} (is : List Nat) (lv' : List (Nat × Value)) (d : decode cc pc = .ok (.istore_n f, 1)) (hi : (f : Nat) = i) (hn : i < nL) (hk : lv_pick ((i, Value.int x) :: lv.filter (fun q => !(q.1 == i) && !(q.1 + 1 == i && q.2.category == 2))) is = lv') (hp : pc + 1 = pc') (kk : X Γ nL k n pc' lv' st ws) : X Γ nL k n pc lv (Value.int x :: st) ws := by
  obtain ⟨p, l, e, R, s, m, args, below, meth, c, Q, A, D, cs⟩ := Γ
  subst hp
  intro H locs ls hP hD hS hl
  exact lv_istore_n B.1.1 B.1.2.1 d hi hl hn rfl (fun ls' hl' => kk H locs ls' hP hD hS (lv_sub hl' is hk))
theorem x_istore (B : CX Γ cc nL own R0) {i : Nat} {x : Int32} (is : List Nat) (lv' : List (Nat × Value)) (d : decode cc pc = .ok (.istore i, 2)) (hn : i < nL) (hk : lv_pick ((i, Value.int x) :: lv.filter (fun q => !(q.1 == i) && !(q.1 + 1 == i && q.2.category == 2))) is = lv') (hp : pc + 2 = pc') (kk : X Γ nL k n pc' lv' st ws) : X Γ nL k n pc lv (Value.int x :: st) ws := by
  obtain ⟨p, l, e, R, s, m, args, below, meth, c, Q, A, D, cs⟩ := Γ
  subst hp
  intro H locs ls hP hD hS hl
  exact lv_istore B.1.1 B.1.2.1 d hl hn rfl (fun ls' hl' => kk H locs ls' hP hD hS (lv_sub hl' is hk))
theorem x_lstore_n (B : CX Γ cc nL own R0) {f : Fin 4} {i : Nat} {x : Int64} (is : List Nat) (lv' : List (Nat × Value)) (d : decode cc pc = .ok (.lstore_n f, 1)) (hi : (f : Nat) = i) (hn : i + 1 < nL) (hk : lv_pick ((i, Value.long x) :: lv.filter (fun q => !(q.1 == i) && (!(q.1 == i + 1) && !(q.1 + 1 == i && q.2.category == 2)))) is = lv') (hp : pc + 1 = pc') (kk : X Γ nL k n pc' lv' st ws) : X Γ nL k n pc lv (Value.long x :: st) ws := by
  obtain ⟨p, l, e, R, s, m, args, below, meth, c, Q, A, D, cs⟩ := Γ
  subst hp
  intro H locs ls hP hD hS hl
  exact lv_lstore_n B.1.1 B.1.2.1 d hi hl hn rfl (fun ls' hl' => kk H locs ls' hP hD hS (lv_sub hl' is hk))
theorem x_lstore (B : CX Γ cc nL own R0) {i : Nat} {x : Int64} (is : List Nat) (lv' : List (Nat × Value)) (d : decode cc pc = .ok (.lstore i, 2)) (hn : i + 1 < nL) (hk : lv_pick ((i, Value.long x) :: lv.filter (fun q => !(q.1 == i) && (!(q.1 == i + 1) && !(q.1 + 1 == i && q.2.category == 2)))) is = lv') (hp : pc + 2 = pc') (kk : X Γ nL k n pc' lv' st ws) : X Γ nL k n pc lv (Value.long x :: st) ws := by
  obtain ⟨p, l, e, R, s, m, args, below, meth, c, Q, A, D, cs⟩ := Γ
  subst hp
  intro H locs ls hP hD hS hl
  exact lv_lstore B.1.1 B.1.2.1 d hl hn rfl (fun ls' hl' => kk H locs ls' hP hD hS (lv_sub hl' is hk))
theorem x_astore_n (B : CX Γ cc nL own R0) {f : Fin 4} {i : Nat} {x : Nat} (is : List Nat) (lv' : List (Nat × Value)) (d : decode cc pc = .ok (.astore_n f, 1)) (hi : (f : Nat) = i) (hn : i < nL) (hk : lv_pick ((i, Value.ref x) :: lv.filter (fun q => !(q.1 == i) && !(q.1 + 1 == i && q.2.category == 2))) is = lv') (hp : pc + 1 = pc') (kk : X Γ nL k n pc' lv' st ws) : X Γ nL k n pc lv (Value.ref x :: st) ws := by
  obtain ⟨p, l, e, R, s, m, args, below, meth, c, Q, A, D, cs⟩ := Γ
  subst hp
  intro H locs ls hP hD hS hl
  exact lv_astore_n B.1.1 B.1.2.1 d hi hl hn rfl (fun ls' hl' => kk H locs ls' hP hD hS (lv_sub hl' is hk))
theorem x_astore (B : CX Γ cc nL own R0) {i : Nat} {x : Nat} (is : List Nat) (lv' : List (Nat × Value)) (d : decode cc pc = .ok (.astore i, 2)) (hn : i < nL) (hk : lv_pick ((i, Value.ref x) :: lv.filter (fun q => !(q.1 == i) && !(q.1 + 1 == i && q.2.category == 2))) is = lv') (hp : pc + 2 = pc') (kk : X Γ nL k n pc' lv' st ws) : X Γ nL k n pc lv (Value.ref x :: st) ws := by
  obtain ⟨p, l, e, R, s, m, args, below, meth, c, Q, A, D, cs⟩ := Γ
  subst hp
  intro H locs ls hP hD hS hl
  exact lv_astore B.1.1 B.1.2.1 d hl hn rfl (fun ls' hl' => kk H locs ls' hP hD hS (lv_sub hl' is hk))
theorem x_iinc (B : CX Γ cc nL own R0) {i : Nat} {z : Int} {x : Int32} (v : Int32) (j : Nat) (is : List Nat) (lv' : List (Nat × Value)) (d : decode cc pc = .ok (.iinc i z, 3)) (hj : lv[j]? = some (i, .int x)) (hv : x + Int32.ofInt z = v) (hn : i < nL) (hk : lv_pick ((i, Value.int v) :: lv.filter (fun q => !(q.1 == i) && !(q.1 + 1 == i && q.2.category == 2))) is = lv') (hp : pc + 3 = pc') (kk : X Γ nL k n pc' lv' st ws) : X Γ nL k n pc lv st ws := by
  obtain ⟨p, l, e, R, s, m, args, below, meth, c, Q, A, D, cs⟩ := Γ
  subst hp
  intro H locs ls hP hD hS hl
  exact lv_iinc B.1.1 B.1.2.1 d hl hj hv hn rfl (fun ls' hl' => kk H locs ls' hP hD hS (lv_sub hl' is hk))
theorem x_iadd (B : CX Γ cc nL own R0) {x y : Int32} (d : decode cc pc = .ok (.iadd, 1)) (hp : pc + 1 = pc') (kk : X Γ nL k n pc' lv (.int (x + y) :: st) ws) : X Γ nL k n pc lv (.int y :: .int x :: st) ws := by
  obtain ⟨p, l, e, R, s, m, args, below, meth, c, Q, A, D, cs⟩ := Γ
  subst hp
  intro H locs ls hP hD hS hl
  exact lv_iadd B.1.1 B.1.2.1 d (kk H locs ls hP hD hS hl)
theorem x_isub (B : CX Γ cc nL own R0) {x y : Int32} (d : decode cc pc = .ok (.isub, 1)) (hp : pc + 1 = pc') (kk : X Γ nL k n pc' lv (.int (x - y) :: st) ws) : X Γ nL k n pc lv (.int y :: .int x :: st) ws := by
  obtain ⟨p, l, e, R, s, m, args, below, meth, c, Q, A, D, cs⟩ := Γ
  subst hp
  intro H locs ls hP hD hS hl
  exact lv_isub B.1.1 B.1.2.1 d (kk H locs ls hP hD hS hl)
theorem x_imul (B : CX Γ cc nL own R0) {x y : Int32} (d : decode cc pc = .ok (.imul, 1)) (hp : pc + 1 = pc') (kk : X Γ nL k n pc' lv (.int (x * y) :: st) ws) : X Γ nL k n pc lv (.int y :: .int x :: st) ws := by
  obtain ⟨p, l, e, R, s, m, args, below, meth, c, Q, A, D, cs⟩ := Γ
  subst hp
  intro H locs ls hP hD hS hl
  exact lv_imul B.1.1 B.1.2.1 d (kk H locs ls hP hD hS hl)
theorem x_iand (B : CX Γ cc nL own R0) {x y : Int32} (d : decode cc pc = .ok (.iand, 1)) (hp : pc + 1 = pc') (kk : X Γ nL k n pc' lv (.int (x &&& y) :: st) ws) : X Γ nL k n pc lv (.int y :: .int x :: st) ws := by
  obtain ⟨p, l, e, R, s, m, args, below, meth, c, Q, A, D, cs⟩ := Γ
  subst hp
  intro H locs ls hP hD hS hl
  exact lv_iand B.1.1 B.1.2.1 d (kk H locs ls hP hD hS hl)
theorem x_ladd (B : CX Γ cc nL own R0) {x y : Int64} (d : decode cc pc = .ok (.ladd, 1)) (hp : pc + 1 = pc') (kk : X Γ nL k n pc' lv (.long (x + y) :: st) ws) : X Γ nL k n pc lv (.long y :: .long x :: st) ws := by
  obtain ⟨p, l, e, R, s, m, args, below, meth, c, Q, A, D, cs⟩ := Γ
  subst hp
  intro H locs ls hP hD hS hl
  exact lv_ladd B.1.1 B.1.2.1 d (kk H locs ls hP hD hS hl)
theorem x_lmul (B : CX Γ cc nL own R0) {x y : Int64} (d : decode cc pc = .ok (.lmul, 1)) (hp : pc + 1 = pc') (kk : X Γ nL k n pc' lv (.long (x * y) :: st) ws) : X Γ nL k n pc lv (.long y :: .long x :: st) ws := by
  obtain ⟨p, l, e, R, s, m, args, below, meth, c, Q, A, D, cs⟩ := Γ
  subst hp
  intro H locs ls hP hD hS hl
  exact lv_lmul B.1.1 B.1.2.1 d (kk H locs ls hP hD hS hl)
theorem x_lsub (B : CX Γ cc nL own R0) {x y : Int64} (d : decode cc pc = .ok (.lsub, 1)) (hp : pc + 1 = pc') (kk : X Γ nL k n pc' lv (.long (x - y) :: st) ws) : X Γ nL k n pc lv (.long y :: .long x :: st) ws := by
  obtain ⟨p, l, e, R, s, m, args, below, meth, c, Q, A, D, cs⟩ := Γ
  subst hp
  intro H locs ls hP hD hS hl
  exact lv_lsub B.1.1 B.1.2.1 d (kk H locs ls hP hD hS hl)
theorem x_irem (B : CX Γ cc nL own R0) {x y : Int32} (d : decode cc pc = .ok (.irem, 1)) (hy : ¬ y = 0) (hp : pc + 1 = pc') (kk : X Γ nL k n pc' lv (.int (x - x / y * y) :: st) ws) : X Γ nL k n pc lv (.int y :: .int x :: st) ws := by
  obtain ⟨p, l, e, R, s, m, args, below, meth, c, Q, A, D, cs⟩ := Γ
  subst hp
  intro H locs ls hP hD hS hl
  exact lv_irem B.1.1 B.1.2.1 d hy (kk H locs ls hP hD hS hl)
theorem x_i2l (B : CX Γ cc nL own R0) {x : Int32} (d : decode cc pc = .ok (.i2l, 1)) (hp : pc + 1 = pc') (kk : X Γ nL k n pc' lv (.long x.toInt64 :: st) ws) : X Γ nL k n pc lv (.int x :: st) ws := by
  obtain ⟨p, l, e, R, s, m, args, below, meth, c, Q, A, D, cs⟩ := Γ
  subst hp
  intro H locs ls hP hD hS hl
  exact lv_i2l B.1.1 B.1.2.1 d rfl (kk H locs ls hP hD hS hl)
theorem x_i2d (B : CX Γ cc nL own R0) {x : Int32} (d : decode cc pc = .ok (.i2d, 1)) (hp : pc + 1 = pc') (kk : X Γ nL k n pc' lv (.double (FP.i2d x) :: st) ws) : X Γ nL k n pc lv (.int x :: st) ws := by
  obtain ⟨p, l, e, R, s, m, args, below, meth, c, Q, A, D, cs⟩ := Γ
  subst hp
  intro H locs ls hP hD hS hl
  exact lv_i2d B.1.1 B.1.2.1 d (kk H locs ls hP hD hS hl)
theorem x_ddiv (B : CX Γ cc nL own R0) {x y : UInt64} (d : decode cc pc = .ok (.ddiv, 1)) (hy : vf_n64 (FP.ddiv x y)) (hp : pc + 1 = pc') (kk : X Γ nL k n pc' lv (.double (FP.ddiv x y) :: st) ws) : X Γ nL k n pc lv (.double y :: .double x :: st) ws := by
  obtain ⟨p, l, e, R, s, m, args, below, meth, c, Q, A, D, cs⟩ := Γ
  subst hp
  intro H locs ls hP hD hS hl
  exact lv_ddiv B.1.1 B.1.2.1 d hy (kk H locs ls hP hD hS hl)
theorem x_pop (B : CX Γ cc nL own R0) {v : Value} (d : decode cc pc = .ok (.pop, 1)) (hv : v.category = 1) (hp : pc + 1 = pc') (kk : X Γ nL k n pc' lv st ws) : X Γ nL k n pc lv (v :: st) ws := by
  obtain ⟨p, l, e, R, s, m, args, below, meth, c, Q, A, D, cs⟩ := Γ
  subst hp
  intro H locs ls hP hD hS hl
  exact lv_pop B.1.1 B.1.2.1 d hv (kk H locs ls hP hD hS hl)
theorem x_dup (B : CX Γ cc nL own R0) {v : Value} (d : decode cc pc = .ok (.dup, 1)) (hv : v.category = 1) (hp : pc + 1 = pc') (kk : X Γ nL k n pc' lv (v :: v :: st) ws) : X Γ nL k n pc lv (v :: st) ws := by
  obtain ⟨p, l, e, R, s, m, args, below, meth, c, Q, A, D, cs⟩ := Γ
  subst hp
  intro H locs ls hP hD hS hl
  exact lv_dup B.1.1 B.1.2.1 d hv (kk H locs ls hP hD hS hl)
theorem x_dup_x1 (B : CX Γ cc nL own R0) {v w : Value} (d : decode cc pc = .ok (.dup_x1, 1)) (hv : v.category = 1) (hw : w.category = 1) (hp : pc + 1 = pc') (kk : X Γ nL k n pc' lv (v :: w :: v :: st) ws) : X Γ nL k n pc lv (v :: w :: st) ws := by
  obtain ⟨p, l, e, R, s, m, args, below, meth, c, Q, A, D, cs⟩ := Γ
  subst hp
  intro H locs ls hP hD hS hl
  exact lv_dup_x1 B.1.1 B.1.2.1 d hv hw (kk H locs ls hP hD hS hl)
theorem x_dup2 (B : CX Γ cc nL own R0) {v w : Value} (d : decode cc pc = .ok (.dup2, 1)) (hv : v.category = 1) (hw : w.category = 1) (hp : pc + 1 = pc') (kk : X Γ nL k n pc' lv (v :: w :: v :: w :: st) ws) : X Γ nL k n pc lv (v :: w :: st) ws := by
  obtain ⟨p, l, e, R, s, m, args, below, meth, c, Q, A, D, cs⟩ := Γ
  subst hp
  intro H locs ls hP hD hS hl
  exact lv_dup2_11 B.1.1 B.1.2.1 d hv hw (kk H locs ls hP hD hS hl)
theorem x_goto (B : CX Γ cc nL own R0) {off : Int} (d : decode cc pc = .ok (.goto off, 3)) (hp : (pc : Int) + off = (pc' : Int)) (kk : X Γ nL k n pc' lv st ws) : X Γ nL k n pc lv st ws := by
  obtain ⟨p, l, e, R, s, m, args, below, meth, c, Q, A, D, cs⟩ := Γ
  intro H locs ls hP hD hS hl
  exact lv_goto B.1.1 B.1.2.1 d hp (kk H locs ls hP hD hS hl)
theorem x_if_eq (B : CX Γ cc nL own R0) {x : Int32} {off : Int} (tgt pc' : Nat) (d : decode cc pc = .ok (.ifCond .eq off, 3)) (ht : (pc : Int) + off = (tgt : Int)) (hp : pc + 3 = pc') (kt : x = 0 → X Γ nL k n tgt lv st ws) (kf : ¬ x = 0 → X Γ nL k n pc' lv st ws) : X Γ nL k n pc lv (.int x :: st) ws := by
  obtain ⟨p, l, e, R, s, m, args, below, meth, c, Q, A, D, cs⟩ := Γ
  subst hp
  intro H locs ls hP hD hS hl
  exact lv_if_eq B.1.1 B.1.2.1 d ht (fun h => kt h H locs ls hP hD hS hl) (fun h => kf h H locs ls hP hD hS hl)
theorem x_icmp_eq (B : CX Γ cc nL own R0) {x y : Int32} {off : Int} (tgt pc' : Nat) (d : decode cc pc = .ok (.if_icmp .eq off, 3)) (ht : (pc : Int) + off = (tgt : Int)) (hp : pc + 3 = pc') (kt : x = y → X Γ nL k n tgt lv st ws) (kf : ¬ x = y → X Γ nL k n pc' lv st ws) : X Γ nL k n pc lv (.int y :: .int x :: st) ws := by
  obtain ⟨p, l, e, R, s, m, args, below, meth, c, Q, A, D, cs⟩ := Γ
  subst hp
  intro H locs ls hP hD hS hl
  exact lv_icmp_eq B.1.1 B.1.2.1 d ht (fun h => kt h H locs ls hP hD hS hl) (fun h => kf h H locs ls hP hD hS hl)
theorem x_if_ne (B : CX Γ cc nL own R0) {x : Int32} {off : Int} (tgt pc' : Nat) (d : decode cc pc = .ok (.ifCond .ne off, 3)) (ht : (pc : Int) + off = (tgt : Int)) (hp : pc + 3 = pc') (kt : ¬ x = 0 → X Γ nL k n tgt lv st ws) (kf : x = 0 → X Γ nL k n pc' lv st ws) : X Γ nL k n pc lv (.int x :: st) ws := by
  obtain ⟨p, l, e, R, s, m, args, below, meth, c, Q, A, D, cs⟩ := Γ
  subst hp
  intro H locs ls hP hD hS hl
  exact lv_if_ne B.1.1 B.1.2.1 d ht (fun h => kt h H locs ls hP hD hS hl) (fun h => kf h H locs ls hP hD hS hl)
theorem x_icmp_ne (B : CX Γ cc nL own R0) {x y : Int32} {off : Int} (tgt pc' : Nat) (d : decode cc pc = .ok (.if_icmp .ne off, 3)) (ht : (pc : Int) + off = (tgt : Int)) (hp : pc + 3 = pc') (kt : ¬ x = y → X Γ nL k n tgt lv st ws) (kf : x = y → X Γ nL k n pc' lv st ws) : X Γ nL k n pc lv (.int y :: .int x :: st) ws := by
  obtain ⟨p, l, e, R, s, m, args, below, meth, c, Q, A, D, cs⟩ := Γ
  subst hp
  intro H locs ls hP hD hS hl
  exact lv_icmp_ne B.1.1 B.1.2.1 d ht (fun h => kt h H locs ls hP hD hS hl) (fun h => kf h H locs ls hP hD hS hl)
theorem x_if_lt (B : CX Γ cc nL own R0) {x : Int32} {off : Int} (tgt pc' : Nat) (d : decode cc pc = .ok (.ifCond .lt off, 3)) (ht : (pc : Int) + off = (tgt : Int)) (hp : pc + 3 = pc') (kt : x < 0 → X Γ nL k n tgt lv st ws) (kf : ¬ x < 0 → X Γ nL k n pc' lv st ws) : X Γ nL k n pc lv (.int x :: st) ws := by
  obtain ⟨p, l, e, R, s, m, args, below, meth, c, Q, A, D, cs⟩ := Γ
  subst hp
  intro H locs ls hP hD hS hl
  exact lv_if_lt B.1.1 B.1.2.1 d ht (fun h => kt h H locs ls hP hD hS hl) (fun h => kf h H locs ls hP hD hS hl)
theorem x_icmp_lt (B : CX Γ cc nL own R0) {x y : Int32} {off : Int} (tgt pc' : Nat) (d : decode cc pc = .ok (.if_icmp .lt off, 3)) (ht : (pc : Int) + off = (tgt : Int)) (hp : pc + 3 = pc') (kt : x < y → X Γ nL k n tgt lv st ws) (kf : ¬ x < y → X Γ nL k n pc' lv st ws) : X Γ nL k n pc lv (.int y :: .int x :: st) ws := by
  obtain ⟨p, l, e, R, s, m, args, below, meth, c, Q, A, D, cs⟩ := Γ
  subst hp
  intro H locs ls hP hD hS hl
  exact lv_icmp_lt B.1.1 B.1.2.1 d ht (fun h => kt h H locs ls hP hD hS hl) (fun h => kf h H locs ls hP hD hS hl)
theorem x_if_ge (B : CX Γ cc nL own R0) {x : Int32} {off : Int} (tgt pc' : Nat) (d : decode cc pc = .ok (.ifCond .ge off, 3)) (ht : (pc : Int) + off = (tgt : Int)) (hp : pc + 3 = pc') (kt : 0 ≤ x → X Γ nL k n tgt lv st ws) (kf : ¬ 0 ≤ x → X Γ nL k n pc' lv st ws) : X Γ nL k n pc lv (.int x :: st) ws := by
  obtain ⟨p, l, e, R, s, m, args, below, meth, c, Q, A, D, cs⟩ := Γ
  subst hp
  intro H locs ls hP hD hS hl
  exact lv_if_ge B.1.1 B.1.2.1 d ht (fun h => kt h H locs ls hP hD hS hl) (fun h => kf h H locs ls hP hD hS hl)
theorem x_icmp_ge (B : CX Γ cc nL own R0) {x y : Int32} {off : Int} (tgt pc' : Nat) (d : decode cc pc = .ok (.if_icmp .ge off, 3)) (ht : (pc : Int) + off = (tgt : Int)) (hp : pc + 3 = pc') (kt : y ≤ x → X Γ nL k n tgt lv st ws) (kf : ¬ y ≤ x → X Γ nL k n pc' lv st ws) : X Γ nL k n pc lv (.int y :: .int x :: st) ws := by
  obtain ⟨p, l, e, R, s, m, args, below, meth, c, Q, A, D, cs⟩ := Γ
  subst hp
  intro H locs ls hP hD hS hl
  exact lv_icmp_ge B.1.1 B.1.2.1 d ht (fun h => kt h H locs ls hP hD hS hl) (fun h => kf h H locs ls hP hD hS hl)
theorem x_if_gt (B : CX Γ cc nL own R0) {x : Int32} {off : Int} (tgt pc' : Nat) (d : decode cc pc = .ok (.ifCond .gt off, 3)) (ht : (pc : Int) + off = (tgt : Int)) (hp : pc + 3 = pc') (kt : 0 < x → X Γ nL k n tgt lv st ws) (kf : ¬ 0 < x → X Γ nL k n pc' lv st ws) : X Γ nL k n pc lv (.int x :: st) ws := by
  obtain ⟨p, l, e, R, s, m, args, below, meth, c, Q, A, D, cs⟩ := Γ
  subst hp
  intro H locs ls hP hD hS hl
  exact lv_if_gt B.1.1 B.1.2.1 d ht (fun h => kt h H locs ls hP hD hS hl) (fun h => kf h H locs ls hP hD hS hl)
theorem x_icmp_gt (B : CX Γ cc nL own R0) {x y : Int32} {off : Int} (tgt pc' : Nat) (d : decode cc pc = .ok (.if_icmp .gt off, 3)) (ht : (pc : Int) + off = (tgt : Int)) (hp : pc + 3 = pc') (kt : y < x → X Γ nL k n tgt lv st ws) (kf : ¬ y < x → X Γ nL k n pc' lv st ws) : X Γ nL k n pc lv (.int y :: .int x :: st) ws := by
  obtain ⟨p, l, e, R, s, m, args, below, meth, c, Q, A, D, cs⟩ := Γ
  subst hp
  intro H locs ls hP hD hS hl
  exact lv_icmp_gt B.1.1 B.1.2.1 d ht (fun h => kt h H locs ls hP hD hS hl) (fun h => kf h H locs ls hP hD hS hl)
theorem x_if_le (B : CX Γ cc nL own R0) {x : Int32} {off : Int} (tgt pc' : Nat) (d : decode cc pc = .ok (.ifCond .le off, 3)) (ht : (pc : Int) + off = (tgt : Int)) (hp : pc + 3 = pc') (kt : x ≤ 0 → X Γ nL k n tgt lv st ws) (kf : ¬ x ≤ 0 → X Γ nL k n pc' lv st ws) : X Γ nL k n pc lv (.int x :: st) ws := by
  obtain ⟨p, l, e, R, s, m, args, below, meth, c, Q, A, D, cs⟩ := Γ
  subst hp
  intro H locs ls hP hD hS hl
  exact lv_if_le B.1.1 B.1.2.1 d ht (fun h => kt h H locs ls hP hD hS hl) (fun h => kf h H locs ls hP hD hS hl)
theorem x_icmp_le (B : CX Γ cc nL own R0) {x y : Int32} {off : Int} (tgt pc' : Nat) (d : decode cc pc = .ok (.if_icmp .le off, 3)) (ht : (pc : Int) + off = (tgt : Int)) (hp : pc + 3 = pc') (kt : x ≤ y → X Γ nL k n tgt lv st ws) (kf : ¬ x ≤ y → X Γ nL k n pc' lv st ws) : X Γ nL k n pc lv (.int y :: .int x :: st) ws := by
  obtain ⟨p, l, e, R, s, m, args, below, meth, c, Q, A, D, cs⟩ := Γ
  subst hp
  intro H locs ls hP hD hS hl
  exact lv_icmp_le B.1.1 B.1.2.1 d ht (fun h => kt h H locs ls hP hD hS hl) (fun h => kf h H locs ls hP hD hS hl)
theorem x_lookup (B : CX Γ cc nL own R0) {dflt : Int} {ps : Array (Int × Int)} {len : Nat} {x : Int32} {off : Int} (d : decode cc pc = .ok (.lookupswitch dflt ps, len)) (hs : (ps.toList.zip (ps.toList.drop 1)).all (fun (a, next) => a.1 < next.1) = true) (ho : Op.lookupswitch.offset ps.toList dflt x.toInt = off) (hp : (pc : Int) + off = (pc' : Int)) (kk : X Γ nL k n pc' lv st ws) : X Γ nL k n pc lv (.int x :: st) ws := by
  obtain ⟨p, l, e, R, s, m, args, below, meth, c, Q, A, D, cs⟩ := Γ
  intro H locs ls hP hD hS hl
  exact lv_lookup B.1.1 B.1.2.1 d hs ho hp (kk H locs ls hP hD hS hl)
theorem x_tableIn (B : CX Γ cc nL own R0) {dflt lo hi : Int} {offs : Array Int} {len : Nat} {x : Int32} {off : Int} (d : decode cc pc = .ok (.tableswitch dflt lo hi offs, len)) (h1 : ¬ x.toInt < lo) (h2 : ¬ hi < x.toInt) (ho : offs[(x.toInt - lo).toNat]? = some off) (hp : (pc : Int) + off = (pc' : Int)) (kk : X Γ nL k n pc' lv st ws) : X Γ nL k n pc lv (.int x :: st) ws := by
  obtain ⟨p, l, e, R, s, m, args, below, meth, c, Q, A, D, cs⟩ := Γ
  intro H locs ls hP hD hS hl
  exact lv_tableIn B.1.1 B.1.2.1 d h1 h2 ho hp (kk H locs ls hP hD hS hl)
theorem x_tableOut (B : CX Γ cc nL own R0) {dflt lo hi : Int} {offs : Array Int} {len : Nat} {x : Int32} (d : decode cc pc = .ok (.tableswitch dflt lo hi offs, len)) (h : x.toInt < lo ∨ hi < x.toInt) (hp : (pc : Int) + dflt = (pc' : Int)) (kk : X Γ nL k n pc' lv st ws) : X Γ nL k n pc lv (.int x :: st) ws := by
  obtain ⟨p, l, e, R, s, m, args, below, meth, c, Q, A, D, cs⟩ := Γ
  intro H locs ls hP hD hS hl
  exact lv_tableOut B.1.1 B.1.2.1 d h hp (kk H locs ls hP hD hS hl)
end ROWS2
end
section
section ROWS3
variable {Γ : Ctx} {cc : ByteArray} {nL k n pc pc' : Nat} {own : String} {R0 : Room} {lv lv' : List (Nat × Value)} {st : List Value} {ws ws' : va_W}
theorem x_lv (is : List Nat) (h : lv_pick lv is = lv') (kk : X Γ nL k n pc lv' st ws) : X Γ nL k n pc lv st ws := by
  obtain ⟨p, l, e, R, s, m, args, below, meth, c, Q, A, D, cs⟩ := Γ
  intro H locs ls hP hD hS hl
  exact kk H locs ls hP hD hS (lv_sub hl is h)
theorem x_topi {x v : Int32} (h : v = x) (kk : X Γ nL k n pc lv (.int v :: st) ws) : X Γ nL k n pc lv (.int x :: st) ws := h ▸ kk
theorem x_topl {x v : Int64} (h : v = x) (kk : X Γ nL k n pc lv (.long v :: st) ws) : X Γ nL k n pc lv (.long x :: st) ws := h ▸ kk
theorem x_wd {σ : Type} {f : σ → va_W} {S S' : σ} (h : S' = S) (kk : X Γ nL k n pc lv st (f S')) : X Γ nL k n pc lv st (f S) := h ▸ kk
theorem x_widen {k' n' : Nat} (h1 : k ≤ k') (h2 : n ≤ n') (kk : X Γ nL k' n' pc lv st ws) : X Γ nL k n pc lv st ws := by
  obtain ⟨p, l, e, R, s, m, args, below, meth, c, Q, A, D, cs⟩ := Γ
  intro H locs ls hP hD hS hl
  exact W.widen h1 h2 (kk H locs ls hP hD hS hl)
theorem x_getf (B : CX Γ cc nL own R0) {index ci N : Nat} {C : String} {T : u_T} {a : Nat} {fs : List Value} {v : Value} (q0 k0 : Nat) (he : ws[q0]? = some (a, .inr (ci, fs))) (hc : vwCl[ci]? = some (C, T, N)) (hin : ∀ w ∈ u_ws C T N, w ∈ GW) (hk : k0 < N) (hw : Cond.fieldLink own index (T k0).1 (T k0).2.1 (T k0).2.2.1 ∈ GW) (hv : fs[k0]? = some v) (d : decode cc pc = .ok (.getfield index, 3)) (hp : pc + 3 = pc') (kk : X Γ nL k n pc' lv (v :: st) ws) : X Γ nL k n pc lv (.ref a :: st) ws := by
  obtain ⟨p, l, e, R, s, m, args, below, meth, c, Q, A, D, cs⟩ := Γ
  subst hp
  intro H locs ls hP hD hS hl
  exact va_get B.1.1 B.1.2.1 B.1.2.2.2.2 hin B.1.2.2.2.1 B.2.1.1 hP q0 he hc k0 hk (B.1.2.2.2.2 _ hw) (fun _ h => h) hv d (kk H locs ls hP hD hS hl)
theorem x_putf (B : CX Γ cc nL own R0) {index ci N : Nat} {C : String} {T : u_T} {a : Nat} {fs : List Value} {v : Value} (q0 k0 : Nat) (ty0 : Nat → FieldType) (hty : ∀ k, k < N → parseFieldDescriptor (T k).2.2.1 = some (ty0 k)) (hnm : ∀ a, a < N → ∀ b, b < N → a ≠ b → (T a).2.1 ≠ (T b).2.1) (he : ws[q0]? = some (a, .inr (ci, fs))) (hc : vwCl[ci]? = some (C, T, N)) (hin : ∀ w ∈ u_ws C T N, w ∈ GW) (hk : k0 < N) (hw : Cond.fieldLink own index (T k0).1 (T k0).2.1 (T k0).2.2.1 ∈ GW) (hfin : (T k0).2.2.2 = false) (hn : narrow (ty0 k0) v = v) (hfit : fits (ty0 k0) v = true) (hlen : k0 < fs.length) (hws : ws.set q0 (a, .inr (ci, fs.set k0 v)) = ws') (d : decode cc pc = .ok (.putfield index, 3)) (hp : pc + 3 = pc') (kk : X Γ nL k n pc' lv st ws') : X Γ nL k n pc lv (v :: .ref a :: st) ws := by
  obtain ⟨p, l, e, R, s, m, args, below, meth, c, Q, A, D, cs⟩ := Γ
  subst hp
  subst hws
  intro H locs ls hP hD hS hl
  exact va_put B.1.1 B.1.2.1 B.1.2.2.2.2 hin ty0 hty hnm B.1.2.2.2.1 B.2.1.1 hP hD hS q0 he hc k0 hk (B.1.2.2.2.2 _ hw) (fun _ h => h) hfin (hty k0 hk) hn hfit hlen d (fun H1 locs1 hP1 hD1 hS1 => kk H1 locs1 ls hP1 hD1 hS1 hl)
theorem x_putF (B : CX Γ cc nL own R0) (hin2 : Γ.2.2.2.2.2.2.2.2.1.name = "<init>") {index ci N : Nat} {C : String} {T : u_T} {a : Nat} {fs : List Value} {v : Value} (q0 k0 : Nat) (ty0 : Nat → FieldType) (hty : ∀ k, k < N → parseFieldDescriptor (T k).2.2.1 = some (ty0 k)) (hnm : ∀ a, a < N → ∀ b, b < N → a ≠ b → (T a).2.1 ≠ (T b).2.1) (he : ws[q0]? = some (a, .inr (ci, fs))) (hc : vwCl[ci]? = some (C, T, N)) (hin : ∀ w ∈ u_ws C T N, w ∈ GW) (hk : k0 < N) (hw : Cond.fieldLink own index (T k0).1 (T k0).2.1 (T k0).2.2.1 ∈ GW) (hfin : (T k0).2.2.2 = true) (hdecl : (T k0).1 = own) (hn : narrow (ty0 k0) v = v) (hfit : fits (ty0 k0) v = true) (hlen : k0 < fs.length) (hws : ws.set q0 (a, .inr (ci, fs.set k0 v)) = ws') (d : decode cc pc = .ok (.putfield index, 3)) (hp : pc + 3 = pc') (kk : X Γ nL k n pc' lv st ws') : X Γ nL k n pc lv (v :: .ref a :: st) ws := by
  obtain ⟨p, l, e, R, s, m, args, below, meth, c, Q, A, D, cs⟩ := Γ
  subst hp
  subst hws
  intro H locs ls hP hD hS hl
  exact va_putF B.1.1 B.1.2.1 B.1.2.2.2.2 hin ty0 hty hnm B.1.2.2.2.1 B.2.1.1 hP hD hS q0 he hc k0 hk (B.1.2.2.2.2 _ hw) (fun _ h => h) hfin hin2 hdecl (hty k0 hk) hn hfit hlen d (fun H1 locs1 hP1 hD1 hS1 => kk H1 locs1 ls hP1 hD1 hS1 hl)
theorem x_iald (B : CX Γ cc nL own R0) {a N : Nat} {f : Nat → Int32} {i : Int32} (q0 : Nat) (he : ws[q0]? = some (a, .inl (Γ.cs.1, N, .inl f))) (hi : vp_in i N) (d : decode cc pc = .ok (.iaload, 1)) (hp : pc + 1 = pc') (kk : X Γ nL k n pc' lv (.int (f i.toNatClampNeg) :: st) ws) : X Γ nL k n pc lv (.int i :: .ref a :: st) ws := by
  obtain ⟨p, l, e, R, s, m, args, below, meth, c, Q, A, D, cs⟩ := Γ
  subst hp
  intro H locs ls hP hD hS hl
  exact va_iald B.1.1 B.1.2.1 B.2.1.1 hP q0 0 he rfl hi d (kk H locs ls hP hD hS hl)
theorem x_iast (B : CX Γ cc nL own R0) {a N : Nat} {f : Nat → Int32} {i v : Int32} (q0 : Nat) (he : ws[q0]? = some (a, .inl (Γ.cs.1, N, .inl f))) (hi : vp_in i N) (hws : ws.set q0 (a, .inl (Γ.cs.1, N, .inl (upd f i.toNatClampNeg v))) = ws') (d : decode cc pc = .ok (.iastore, 1)) (hp : pc + 1 = pc') (kk : X Γ nL k n pc' lv st ws') : X Γ nL k n pc lv (.int v :: .int i :: .ref a :: st) ws := by
  obtain ⟨p, l, e, R, s, m, args, below, meth, c, Q, A, D, cs⟩ := Γ
  subst hp
  subst hws
  intro H locs ls hP hD hS hl
  exact va_iast B.1.1 B.1.2.1 B.2.1.1 hP hD hS q0 0 he rfl hi d (fun H1 locs1 hP1 hD1 hS1 => kk H1 locs1 ls hP1 hD1 hS1 hl)
theorem x_lald (B : CX Γ cc nL own R0) {a N : Nat} {f : Nat → Int64} {i : Int32} (q0 : Nat) (he : ws[q0]? = some (a, .inl (Γ.cs.2.1, N, .inr (.inl f)))) (hi : vp_in i N) (d : decode cc pc = .ok (.laload, 1)) (hp : pc + 1 = pc') (kk : X Γ nL k n pc' lv (.long (f i.toNatClampNeg) :: st) ws) : X Γ nL k n pc lv (.int i :: .ref a :: st) ws := by
  obtain ⟨p, l, e, R, s, m, args, below, meth, c, Q, A, D, cs⟩ := Γ
  subst hp
  intro H locs ls hP hD hS hl
  exact va_lald B.1.1 B.1.2.1 B.2.1.1 hP q0 1 he rfl hi d (kk H locs ls hP hD hS hl)
theorem x_last (B : CX Γ cc nL own R0) {a N : Nat} {f : Nat → Int64} {i : Int32} {v : Int64} (q0 : Nat) (he : ws[q0]? = some (a, .inl (Γ.cs.2.1, N, .inr (.inl f)))) (hi : vp_in i N) (hws : ws.set q0 (a, .inl (Γ.cs.2.1, N, .inr (.inl (vp_updL f i.toNatClampNeg v)))) = ws') (d : decode cc pc = .ok (.lastore, 1)) (hp : pc + 1 = pc') (kk : X Γ nL k n pc' lv st ws') : X Γ nL k n pc lv (.long v :: .int i :: .ref a :: st) ws := by
  obtain ⟨p, l, e, R, s, m, args, below, meth, c, Q, A, D, cs⟩ := Γ
  subst hp
  subst hws
  intro H locs ls hP hD hS hl
  exact va_last B.1.1 B.1.2.1 B.2.1.1 hP hD hS q0 1 he rfl hi d (fun H1 locs1 hP1 hD1 hS1 => kk H1 locs1 ls hP1 hD1 hS1 hl)
theorem x_alen (B : CX Γ cc nL own R0) {a N : Nat} {f : Nat → Int32} (v : Int32) (q0 : Nat) (he : ws[q0]? = some (a, .inl (Γ.cs.1, N, .inl f))) (hv : nI N = v) (d : decode cc pc = .ok (.arraylength, 1)) (hp : pc + 1 = pc') (kk : X Γ nL k n pc' lv (.int v :: st) ws) : X Γ nL k n pc lv (.ref a :: st) ws := by
  obtain ⟨p, l, e, R, s, m, args, below, meth, c, Q, A, D, cs⟩ := Γ
  subst hp
  intro H locs ls hP hD hS hl
  exact va_alen B.1.1 B.1.2.1 B.2.1.1 hP q0 0 he rfl (by rw [← hv]; rfl) d (kk H locs ls hP hD hS hl)
/-! contracts -/
/-- a method's start: its arguments, its world -/
def PR (D : va_G) (cs : CS) (av : List Value) (w : va_W) (sz : Nat) : Array Value → State → Prop := va_Pc av (fun U => U.heap.size = sz ∧ va_P D vwCl w U.heap ∧ KN D cs U ∧ va_D (fun _ => True) w)
def PO (D : va_G) (w w' : va_W) (sz : Nat) : Unit → State → Prop := fun _ t => va_P D vwCl w' t.heap ∧ va_D (va_A w sz) w'
def MI (l : Launch) (D : va_G) (cs : CS) (y : MethodName) (bytes : ByteArray) (maxL : Nat) (rt : FieldType) (rm : Room) (av : List Value) (w : va_W) (r : Int32) (w' : va_W) : Prop := ∀ sz, Met l y (.code y bytes maxL (some rt) :: GW) rm (PR D cs av w sz) (va_Qi (fun r' _ => r' = r) (PO D w w' sz) (va_A w sz)) rm.cells rm.slots (va_A w sz)
def ML (l : Launch) (D : va_G) (cs : CS) (y : MethodName) (bytes : ByteArray) (maxL : Nat) (rm : Room) (av : List Value) (w : va_W) (r : Int64) (w' : va_W) : Prop := ∀ sz, Met l y (.code y bytes maxL (some .long) :: GW) rm (PR D cs av w sz) (va_Ql (fun r' _ => r' = r) (PO D w w' sz) (va_A w sz)) rm.cells rm.slots (va_A w sz)
def MV (l : Launch) (D : va_G) (cs : CS) (y : MethodName) (bytes : ByteArray) (maxL : Nat) (rm : Room) (av : List Value) (w w' : va_W) : Prop := ∀ sz, Met l y (.code y bytes maxL none :: GW) rm (PR D cs av w sz) (va_Qv (fun _ => True) (PO D w w' sz) (va_A w sz)) rm.cells rm.slots (va_A w sz)
theorem pr_blind (D : va_G) (cs : CS) (av : List Value) (w : va_W) (sz : Nat) : FrameBlind (PR D cs av w sz) := fun a U g mk q => by
  obtain ⟨q0, q1, qP, qK, qD⟩ := q
  exact ⟨q0, q1, qP, KN.same (s := U) (U := U.calling g mk a) rfl qK, qD⟩
theorem MI_of {l : Launch} {D : va_G} {cs : CS} {y : MethodName} {bytes : ByteArray} {maxL : Nat} {rt : FieldType} {r : Int32} {rm : Room} {av : List Value} {w w' : va_W} (hy : plainName y.cls = true) (hlen : (lg_sl av).length ≤ maxL)
    (body : ∀ Γ : Ctx, Γ.l = l → Γ.D = D → Γ.cs = cs → CX Γ bytes maxL y.cls rm → (∀ {k n pc : Nat} {lv : List (Nat × Value)}, narrow rt (.int r) = .int r → k ≤ rm.cells → n ≤ rm.slots → decode bytes pc = .ok (.ireturn, 1) → X Γ maxL k n pc lv [.int r] w') → X Γ maxL 0 0 0 (lv_args 0 av) [] w) : MI l D cs y bytes maxL rt rm av w r w' := by
  intro sz
  refine Met.ofW (cc := bytes) (maxL := maxL) (ret := some rt) hy rfl ?_
  intro p e s m args below meth c s₁ B hml hv
  obtain ⟨rfl, hsz, hP, hK, hD0⟩ := hv
  subst hsz
  have hts := atoms_spec (ws := .code y bytes maxL (some rt) :: GW) B.pre
  have hown : s.vm.findClass y.cls = some m.cls := findClass_of_methodNamed B.named
  have hl := lv_entry av (n := maxL) hlen
  rw [lg_entry_eq]
  have hD := hD0.self (sz := s.heap.size)
  refine body (p, l, e, rm, s, m, av.toArray, below, meth, c, _, va_A w s.heap.size, D, cs) rfl rfl rfl ⟨⟨B.exec, B.bytes, hml, hown, fun w h => hts w (List.mem_cons_of_mem _ h)⟩, hK, fun q h => Or.inr h, B.notSynchronized, rfl⟩ ?_ s.heap [] _ hP hD va_S.rf hl
  intro k n pc lv hnar hk hn d H locs ls hP1 hD1 hS hl1
  have hlocks : meth.locks = false := B.notSynchronized
  exact W.widen hk hn (W.zret B.exec B.bytes B.returns hnar (fun t ht hW => ⟨⟨r, (), rfl, rfl, by rw [ht]; exact hP1, hD1⟩, hS.F ht⟩) hS.2.2 d)
theorem ML_of {l : Launch} {D : va_G} {cs : CS} {y : MethodName} {bytes : ByteArray} {maxL : Nat} {r : Int64} {rm : Room} {av : List Value} {w w' : va_W} (hy : plainName y.cls = true) (hlen : (lg_sl av).length ≤ maxL)
    (body : ∀ Γ : Ctx, Γ.l = l → Γ.D = D → Γ.cs = cs → CX Γ bytes maxL y.cls rm → (∀ {k n pc : Nat} {lv : List (Nat × Value)}, k ≤ rm.cells → n ≤ rm.slots → decode bytes pc = .ok (.lreturn, 1) → X Γ maxL k n pc lv [.long r] w') → X Γ maxL 0 0 0 (lv_args 0 av) [] w) : ML l D cs y bytes maxL rm av w r w' := by
  intro sz
  refine Met.ofW (cc := bytes) (maxL := maxL) (ret := some .long) hy rfl ?_
  intro p e s m args below meth c s₁ B hml hv
  obtain ⟨rfl, hsz, hP, hK, hD0⟩ := hv
  subst hsz
  have hts := atoms_spec (ws := .code y bytes maxL (some .long) :: GW) B.pre
  have hown : s.vm.findClass y.cls = some m.cls := findClass_of_methodNamed B.named
  have hl := lv_entry av (n := maxL) hlen
  rw [lg_entry_eq]
  have hD := hD0.self (sz := s.heap.size)
  refine body (p, l, e, rm, s, m, av.toArray, below, meth, c, _, va_A w s.heap.size, D, cs) rfl rfl rfl ⟨⟨B.exec, B.bytes, hml, hown, fun w h => hts w (List.mem_cons_of_mem _ h)⟩, hK, fun q h => Or.inr h, B.notSynchronized, rfl⟩ ?_ s.heap [] _ hP hD va_S.rf hl
  intro k n pc lv hk hn d H locs ls hP1 hD1 hS hl1
  have hlocks : meth.locks = false := B.notSynchronized
  exact W.widen hk hn (W.lret B.exec B.bytes B.returns (fun t ht hW => ⟨⟨r, (), rfl, rfl, by rw [ht]; exact hP1, hD1⟩, hS.F ht⟩) hS.2.2 d)
theorem MV_of {l : Launch} {D : va_G} {cs : CS} {y : MethodName} {bytes : ByteArray} {maxL : Nat} {rm : Room} {av : List Value} {w w' : va_W} (hy : plainName y.cls = true) (hlen : (lg_sl av).length ≤ maxL)
    (body : ∀ Γ : Ctx, Γ.l = l → Γ.D = D → Γ.cs = cs → CX Γ bytes maxL y.cls rm → (∀ {k n pc : Nat} {lv : List (Nat × Value)}, k ≤ rm.cells → n ≤ rm.slots → decode bytes pc = .ok (.return_, 1) → X Γ maxL k n pc lv [] w') → X Γ maxL 0 0 0 (lv_args 0 av) [] w) : MV l D cs y bytes maxL rm av w w' := by
  intro sz
  refine Met.ofW (cc := bytes) (maxL := maxL) (ret := none) hy rfl ?_
  intro p e s m args below meth c s₁ B hml hv
  obtain ⟨rfl, hsz, hP, hK, hD0⟩ := hv
  subst hsz
  have hts := atoms_spec (ws := .code y bytes maxL (none) :: GW) B.pre
  have hown : s.vm.findClass y.cls = some m.cls := findClass_of_methodNamed B.named
  have hl := lv_entry av (n := maxL) hlen
  rw [lg_entry_eq]
  have hD := hD0.self (sz := s.heap.size)
  refine body (p, l, e, rm, s, m, av.toArray, below, meth, c, _, va_A w s.heap.size, D, cs) rfl rfl rfl ⟨⟨B.exec, B.bytes, hml, hown, fun w h => hts w (List.mem_cons_of_mem _ h)⟩, hK, fun q h => Or.inr h, B.notSynchronized, rfl⟩ ?_ s.heap [] _ hP hD va_S.rf hl
  intro k n pc lv hk hn d H locs ls hP1 hD1 hS hl1
  have hlocks : meth.locks = false := B.notSynchronized
  exact W.widen hk hn (W.vret B.exec B.bytes B.returns (fun t ht hW => ⟨⟨(), rfl, trivial, by rw [ht]; exact hP1, hD1⟩, hS.F ht⟩) hS.2.2 d)
theorem fm_of {α : Type} {f : Nat → Option α} : ∀ {is : List Nat} {w : List α}, is.map f = w.map some → is.filterMap f = w
  | [], [], _ => rfl
  | [], _ :: _, h => by cases h
  | _ :: _, [], h => by cases h
  | i :: is, a :: w, h => by
    rw [List.map_cons, List.map_cons, List.cons.injEq] at h
    rw [List.filterMap_cons, h.1]
    exact congrArg (a :: ·) (fm_of h.2)
theorem x_GVi {Γ : Ctx} {cc : ByteArray} {nL k n pc pc' : Nat} {own : String} {R0 : Room} {lv : List (Nat × Value)} {st st0 : List Value} {ws ws' : va_W} (B : CX Γ cc nL own R0) {y : MethodName} {index maxL : Nat} {bytes : ByteArray} {rt : FieldType} {r : Int32} {rm : Room} {b : Addr} (As : List Value) {w w' wr : va_W} (hM : MI Γ.l Γ.D Γ.cs y bytes maxL rt rm (.ref b :: As) w r w') (isC isR is : List Nat) (hC : isC.map (fun i => ws[i]?) = w.map some) (hcn : va_nd isC = true) (hRr : isR.map (fun i => ws[i]?) = wr.map some) (hrn : va_nd isR = true) (hdis : ∀ i ∈ isR, i ∉ isC) (hN : is.map (fun i => (wr ++ w')[i]?) = ws'.map some) (hn2 : va_nd is = true) {ci : Nat} {fs : List Value} {q3 : vw_C} (hrec : (w : va_W)[0]? = some (b, .inr (ci, fs))) (hcl : vwCl[ci]? = some q3) (hg : GoodIn GW (wsV own index q3.1 y (.code y bytes maxL (some rt) :: GW))) (hcc : y.cls = q3.1) (hd : y.cls ≠ "java/lang/invoke/MethodHandle" ∧ y.cls ≠ "java/lang/invoke/VarHandle" ∧ (parseMethodDescriptor y.desc).map (fun d => d.parameters.length) = some As.length) (hR : rm.frames + 1 ≤ R0.frames ∧ 8 + (maxL + 11) + rm.locals ≤ R0.locals) (hroom : k + rm.cells ≤ R0.cells ∧ n + rm.slots ≤ R0.slots) (hstk : st0 = As.reverse ++ .ref b :: st) (hsum : (st.map fun v => v.category).sum ≤ 8) (d : decode cc pc = .ok (.invokevirtual index, 3)) (hp : pc + 3 = pc') (kk : X Γ nL (k + rm.cells) (n + rm.slots) pc' lv (.int r :: st) ws') : X Γ nL k n pc lv st0 ws := by
  obtain ⟨p, l, e, R, s, m, args, below, meth, c, Q, A, D, cs⟩ := Γ
  subst hp
  subst hstk
  obtain ⟨hfix, hKN, hA, hlk, rfl⟩ := B
  intro H locs ls hP hD hS hl
  have hPc : va_P D vwCl w H := hP.sub isC (fm_of hC)
  have hDc : va_D A w := hD.sub isC hcn hC
  have hFc := va_free hD hS hA isC hC
  refine va_calli (va_runV (As := As) (rest := st) hfix (hM H.size) (cwV As.length hfix.2.2.2.2 hg rfl rfl rfl ⟨hcc, hd⟩ hR) ⟨pr_blind _ _ _ _ _, va_recv hKN.1 hPc (q := q3) hcl (q0 := 0) hrec, fun U hU hW => ⟨rfl, by rw [hU], by rw [hU]; exact hPc, KN.warm hW hKN, hDc.weaken (fun _ _ _ _ => trivial)⟩⟩ rfl rfl hl.1 rfl (lv_room hsum) d hroom) hS (fun q _ h => hFc q h) hFc (fun r2 u t H1 locs1 ht hvm hw hB hz1 hk1 hS1 => ?_)
  subst hw
  obtain ⟨hP1, hD1⟩ := hB
  rw [ht] at hP1
  obtain ⟨hP2, hD2⟩ := va_join hP hD isC isR hC hRr hrn hdis hk1 hFc hP1 hD1
  exact kk H1 locs1 ls (hP2.sub is (fm_of hN)) (hD2.sub is hn2 hN) hS1 hl
theorem x_selfVi {Γ : Ctx} {cc : ByteArray} {nL k n pc pc' : Nat} {own : String} {R0 : Room} {lv : List (Nat × Value)} {st st0 : List Value} {ws ws' : va_W} (B : CX Γ cc nL own R0) {y : MethodName} {index maxL : Nat} {bytes : ByteArray} {rt : FieldType} {r : Int32} {rm : Room} {b : Addr} (As : List Value) (hM : MI Γ.l Γ.D Γ.cs y bytes maxL rt rm (.ref b :: As) ws r ws') {ci : Nat} {fs : List Value} {q3 : vw_C} (hrec : (ws : va_W)[0]? = some (b, .inr (ci, fs))) (hcl : vwCl[ci]? = some q3) (hg : GoodIn GW (wsV own index q3.1 y (.code y bytes maxL (some rt) :: GW))) (hcc : y.cls = q3.1) (hd : y.cls ≠ "java/lang/invoke/MethodHandle" ∧ y.cls ≠ "java/lang/invoke/VarHandle" ∧ (parseMethodDescriptor y.desc).map (fun d => d.parameters.length) = some As.length) (hR : rm.frames + 1 ≤ R0.frames ∧ 8 + (maxL + 11) + rm.locals ≤ R0.locals) (hroom : k + rm.cells ≤ R0.cells ∧ n + rm.slots ≤ R0.slots) (hstk : st0 = As.reverse ++ .ref b :: st) (hsum : (st.map fun v => v.category).sum ≤ 8) (d : decode cc pc = .ok (.invokevirtual index, 3)) (hp : pc + 3 = pc') (kk : X Γ nL (k + rm.cells) (n + rm.slots) pc' lv (.int r :: st) ws') : X Γ nL k n pc lv st0 ws := by
  obtain ⟨p, l, e, R, s, m, args, below, meth, c, Q, A, D, cs⟩ := Γ
  subst hp
  subst hstk
  obtain ⟨hfix, hKN, hA, hlk, rfl⟩ := B
  intro H locs ls hP hD hS hl
  have hPc : va_P D vwCl ws H := hP
  have hDc : va_D A ws := hD
  have hFc : ∀ q, va_A ws H.size q → A q := fun q h => h.elim (fun ⟨k9, e9, h9⟩ => hD.2 k9 (q, e9) h9) (fun h9 => hA q (Nat.le_trans hS.1 h9))
  refine va_calli (va_runV (As := As) (rest := st) hfix (hM H.size) (cwV As.length hfix.2.2.2.2 hg rfl rfl rfl ⟨hcc, hd⟩ hR) ⟨pr_blind _ _ _ _ _, va_recv hKN.1 hPc (q := q3) hcl (q0 := 0) hrec, fun U hU hW => ⟨rfl, by rw [hU], by rw [hU]; exact hPc, KN.warm hW hKN, hDc.weaken (fun _ _ _ _ => trivial)⟩⟩ rfl rfl hl.1 rfl (lv_room hsum) d hroom) hS (fun q _ h => hFc q h) hFc (fun r2 u t H1 locs1 ht hvm hw hB hz1 hk1 hS1 => ?_)
  subst hw
  obtain ⟨hP1, hD1⟩ := hB
  rw [ht] at hP1
  exact kk H1 locs1 ls hP1 (hD1.weaken (fun k9 q9 _ h9 => hFc q9.1 h9)) hS1 hl
theorem x_GVl {Γ : Ctx} {cc : ByteArray} {nL k n pc pc' : Nat} {own : String} {R0 : Room} {lv : List (Nat × Value)} {st st0 : List Value} {ws ws' : va_W} (B : CX Γ cc nL own R0) {y : MethodName} {index maxL : Nat} {bytes : ByteArray} {r : Int64} {rm : Room} {b : Addr} (As : List Value) {w w' wr : va_W} (hM : ML Γ.l Γ.D Γ.cs y bytes maxL rm (.ref b :: As) w r w') (isC isR is : List Nat) (hC : isC.map (fun i => ws[i]?) = w.map some) (hcn : va_nd isC = true) (hRr : isR.map (fun i => ws[i]?) = wr.map some) (hrn : va_nd isR = true) (hdis : ∀ i ∈ isR, i ∉ isC) (hN : is.map (fun i => (wr ++ w')[i]?) = ws'.map some) (hn2 : va_nd is = true) {ci : Nat} {fs : List Value} {q3 : vw_C} (hrec : (w : va_W)[0]? = some (b, .inr (ci, fs))) (hcl : vwCl[ci]? = some q3) (hg : GoodIn GW (wsV own index q3.1 y (.code y bytes maxL (some .long) :: GW))) (hcc : y.cls = q3.1) (hd : y.cls ≠ "java/lang/invoke/MethodHandle" ∧ y.cls ≠ "java/lang/invoke/VarHandle" ∧ (parseMethodDescriptor y.desc).map (fun d => d.parameters.length) = some As.length) (hR : rm.frames + 1 ≤ R0.frames ∧ 8 + (maxL + 11) + rm.locals ≤ R0.locals) (hroom : k + rm.cells ≤ R0.cells ∧ n + rm.slots ≤ R0.slots) (hstk : st0 = As.reverse ++ .ref b :: st) (hsum : (st.map fun v => v.category).sum ≤ 8) (d : decode cc pc = .ok (.invokevirtual index, 3)) (hp : pc + 3 = pc') (kk : X Γ nL (k + rm.cells) (n + rm.slots) pc' lv (.long r :: st) ws') : X Γ nL k n pc lv st0 ws := by
  obtain ⟨p, l, e, R, s, m, args, below, meth, c, Q, A, D, cs⟩ := Γ
  subst hp
  subst hstk
  obtain ⟨hfix, hKN, hA, hlk, rfl⟩ := B
  intro H locs ls hP hD hS hl
  have hPc : va_P D vwCl w H := hP.sub isC (fm_of hC)
  have hDc : va_D A w := hD.sub isC hcn hC
  have hFc := va_free hD hS hA isC hC
  refine va_calll (va_runV (As := As) (rest := st) hfix (hM H.size) (cwV As.length hfix.2.2.2.2 hg rfl rfl rfl ⟨hcc, hd⟩ hR) ⟨pr_blind _ _ _ _ _, va_recv hKN.1 hPc (q := q3) hcl (q0 := 0) hrec, fun U hU hW => ⟨rfl, by rw [hU], by rw [hU]; exact hPc, KN.warm hW hKN, hDc.weaken (fun _ _ _ _ => trivial)⟩⟩ rfl rfl hl.1 rfl (lv_room hsum) d hroom) hS (fun q _ h => hFc q h) hFc (fun r2 u t H1 locs1 ht hvm hw hB hz1 hk1 hS1 => ?_)
  subst hw
  obtain ⟨hP1, hD1⟩ := hB
  rw [ht] at hP1
  obtain ⟨hP2, hD2⟩ := va_join hP hD isC isR hC hRr hrn hdis hk1 hFc hP1 hD1
  exact kk H1 locs1 ls (hP2.sub is (fm_of hN)) (hD2.sub is hn2 hN) hS1 hl
theorem x_selfVl {Γ : Ctx} {cc : ByteArray} {nL k n pc pc' : Nat} {own : String} {R0 : Room} {lv : List (Nat × Value)} {st st0 : List Value} {ws ws' : va_W} (B : CX Γ cc nL own R0) {y : MethodName} {index maxL : Nat} {bytes : ByteArray} {r : Int64} {rm : Room} {b : Addr} (As : List Value) (hM : ML Γ.l Γ.D Γ.cs y bytes maxL rm (.ref b :: As) ws r ws') {ci : Nat} {fs : List Value} {q3 : vw_C} (hrec : (ws : va_W)[0]? = some (b, .inr (ci, fs))) (hcl : vwCl[ci]? = some q3) (hg : GoodIn GW (wsV own index q3.1 y (.code y bytes maxL (some .long) :: GW))) (hcc : y.cls = q3.1) (hd : y.cls ≠ "java/lang/invoke/MethodHandle" ∧ y.cls ≠ "java/lang/invoke/VarHandle" ∧ (parseMethodDescriptor y.desc).map (fun d => d.parameters.length) = some As.length) (hR : rm.frames + 1 ≤ R0.frames ∧ 8 + (maxL + 11) + rm.locals ≤ R0.locals) (hroom : k + rm.cells ≤ R0.cells ∧ n + rm.slots ≤ R0.slots) (hstk : st0 = As.reverse ++ .ref b :: st) (hsum : (st.map fun v => v.category).sum ≤ 8) (d : decode cc pc = .ok (.invokevirtual index, 3)) (hp : pc + 3 = pc') (kk : X Γ nL (k + rm.cells) (n + rm.slots) pc' lv (.long r :: st) ws') : X Γ nL k n pc lv st0 ws := by
  obtain ⟨p, l, e, R, s, m, args, below, meth, c, Q, A, D, cs⟩ := Γ
  subst hp
  subst hstk
  obtain ⟨hfix, hKN, hA, hlk, rfl⟩ := B
  intro H locs ls hP hD hS hl
  have hPc : va_P D vwCl ws H := hP
  have hDc : va_D A ws := hD
  have hFc : ∀ q, va_A ws H.size q → A q := fun q h => h.elim (fun ⟨k9, e9, h9⟩ => hD.2 k9 (q, e9) h9) (fun h9 => hA q (Nat.le_trans hS.1 h9))
  refine va_calll (va_runV (As := As) (rest := st) hfix (hM H.size) (cwV As.length hfix.2.2.2.2 hg rfl rfl rfl ⟨hcc, hd⟩ hR) ⟨pr_blind _ _ _ _ _, va_recv hKN.1 hPc (q := q3) hcl (q0 := 0) hrec, fun U hU hW => ⟨rfl, by rw [hU], by rw [hU]; exact hPc, KN.warm hW hKN, hDc.weaken (fun _ _ _ _ => trivial)⟩⟩ rfl rfl hl.1 rfl (lv_room hsum) d hroom) hS (fun q _ h => hFc q h) hFc (fun r2 u t H1 locs1 ht hvm hw hB hz1 hk1 hS1 => ?_)
  subst hw
  obtain ⟨hP1, hD1⟩ := hB
  rw [ht] at hP1
  exact kk H1 locs1 ls hP1 (hD1.weaken (fun k9 q9 _ h9 => hFc q9.1 h9)) hS1 hl
theorem x_GVv {Γ : Ctx} {cc : ByteArray} {nL k n pc pc' : Nat} {own : String} {R0 : Room} {lv : List (Nat × Value)} {st st0 : List Value} {ws ws' : va_W} (B : CX Γ cc nL own R0) {y : MethodName} {index maxL : Nat} {bytes : ByteArray} {rm : Room} {b : Addr} (As : List Value) {w w' wr : va_W} (hM : MV Γ.l Γ.D Γ.cs y bytes maxL rm (.ref b :: As) w w') (isC isR is : List Nat) (hC : isC.map (fun i => ws[i]?) = w.map some) (hcn : va_nd isC = true) (hRr : isR.map (fun i => ws[i]?) = wr.map some) (hrn : va_nd isR = true) (hdis : ∀ i ∈ isR, i ∉ isC) (hN : is.map (fun i => (wr ++ w')[i]?) = ws'.map some) (hn2 : va_nd is = true) {ci : Nat} {fs : List Value} {q3 : vw_C} (hrec : (w : va_W)[0]? = some (b, .inr (ci, fs))) (hcl : vwCl[ci]? = some q3) (hg : GoodIn GW (wsV own index q3.1 y (.code y bytes maxL none :: GW))) (hcc : y.cls = q3.1) (hd : y.cls ≠ "java/lang/invoke/MethodHandle" ∧ y.cls ≠ "java/lang/invoke/VarHandle" ∧ (parseMethodDescriptor y.desc).map (fun d => d.parameters.length) = some As.length) (hR : rm.frames + 1 ≤ R0.frames ∧ 8 + (maxL + 11) + rm.locals ≤ R0.locals) (hroom : k + rm.cells ≤ R0.cells ∧ n + rm.slots ≤ R0.slots) (hstk : st0 = As.reverse ++ .ref b :: st) (hsum : (st.map fun v => v.category).sum ≤ 8) (d : decode cc pc = .ok (.invokevirtual index, 3)) (hp : pc + 3 = pc') (kk : X Γ nL (k + rm.cells) (n + rm.slots) pc' lv (st) ws') : X Γ nL k n pc lv st0 ws := by
  obtain ⟨p, l, e, R, s, m, args, below, meth, c, Q, A, D, cs⟩ := Γ
  subst hp
  subst hstk
  obtain ⟨hfix, hKN, hA, hlk, rfl⟩ := B
  intro H locs ls hP hD hS hl
  have hPc : va_P D vwCl w H := hP.sub isC (fm_of hC)
  have hDc : va_D A w := hD.sub isC hcn hC
  have hFc := va_free hD hS hA isC hC
  refine va_callv (va_runV (As := As) (rest := st) hfix (hM H.size) (cwV As.length hfix.2.2.2.2 hg rfl rfl rfl ⟨hcc, hd⟩ hR) ⟨pr_blind _ _ _ _ _, va_recv hKN.1 hPc (q := q3) hcl (q0 := 0) hrec, fun U hU hW => ⟨rfl, by rw [hU], by rw [hU]; exact hPc, KN.warm hW hKN, hDc.weaken (fun _ _ _ _ => trivial)⟩⟩ rfl rfl hl.1 rfl (lv_room hsum) d hroom) hS (fun q _ h => hFc q h) hFc (fun u t H1 locs1 ht hvm hw hB hz1 hk1 hS1 => ?_)
  obtain ⟨hP1, hD1⟩ := hB
  rw [ht] at hP1
  obtain ⟨hP2, hD2⟩ := va_join hP hD isC isR hC hRr hrn hdis hk1 hFc hP1 hD1
  exact kk H1 locs1 ls (hP2.sub is (fm_of hN)) (hD2.sub is hn2 hN) hS1 hl
theorem x_selfVv {Γ : Ctx} {cc : ByteArray} {nL k n pc pc' : Nat} {own : String} {R0 : Room} {lv : List (Nat × Value)} {st st0 : List Value} {ws ws' : va_W} (B : CX Γ cc nL own R0) {y : MethodName} {index maxL : Nat} {bytes : ByteArray} {rm : Room} {b : Addr} (As : List Value) (hM : MV Γ.l Γ.D Γ.cs y bytes maxL rm (.ref b :: As) ws ws') {ci : Nat} {fs : List Value} {q3 : vw_C} (hrec : (ws : va_W)[0]? = some (b, .inr (ci, fs))) (hcl : vwCl[ci]? = some q3) (hg : GoodIn GW (wsV own index q3.1 y (.code y bytes maxL none :: GW))) (hcc : y.cls = q3.1) (hd : y.cls ≠ "java/lang/invoke/MethodHandle" ∧ y.cls ≠ "java/lang/invoke/VarHandle" ∧ (parseMethodDescriptor y.desc).map (fun d => d.parameters.length) = some As.length) (hR : rm.frames + 1 ≤ R0.frames ∧ 8 + (maxL + 11) + rm.locals ≤ R0.locals) (hroom : k + rm.cells ≤ R0.cells ∧ n + rm.slots ≤ R0.slots) (hstk : st0 = As.reverse ++ .ref b :: st) (hsum : (st.map fun v => v.category).sum ≤ 8) (d : decode cc pc = .ok (.invokevirtual index, 3)) (hp : pc + 3 = pc') (kk : X Γ nL (k + rm.cells) (n + rm.slots) pc' lv (st) ws') : X Γ nL k n pc lv st0 ws := by
  obtain ⟨p, l, e, R, s, m, args, below, meth, c, Q, A, D, cs⟩ := Γ
  subst hp
  subst hstk
  obtain ⟨hfix, hKN, hA, hlk, rfl⟩ := B
  intro H locs ls hP hD hS hl
  have hPc : va_P D vwCl ws H := hP
  have hDc : va_D A ws := hD
  have hFc : ∀ q, va_A ws H.size q → A q := fun q h => h.elim (fun ⟨k9, e9, h9⟩ => hD.2 k9 (q, e9) h9) (fun h9 => hA q (Nat.le_trans hS.1 h9))
  refine va_callv (va_runV (As := As) (rest := st) hfix (hM H.size) (cwV As.length hfix.2.2.2.2 hg rfl rfl rfl ⟨hcc, hd⟩ hR) ⟨pr_blind _ _ _ _ _, va_recv hKN.1 hPc (q := q3) hcl (q0 := 0) hrec, fun U hU hW => ⟨rfl, by rw [hU], by rw [hU]; exact hPc, KN.warm hW hKN, hDc.weaken (fun _ _ _ _ => trivial)⟩⟩ rfl rfl hl.1 rfl (lv_room hsum) d hroom) hS (fun q _ h => hFc q h) hFc (fun u t H1 locs1 ht hvm hw hB hz1 hk1 hS1 => ?_)
  obtain ⟨hP1, hD1⟩ := hB
  rw [ht] at hP1
  exact kk H1 locs1 ls hP1 (hD1.weaken (fun k9 q9 _ h9 => hFc q9.1 h9)) hS1 hl
theorem x_GSi {Γ : Ctx} {cc : ByteArray} {nL k n pc pc' : Nat} {own : String} {R0 : Room} {lv : List (Nat × Value)} {st st0 : List Value} {ws ws' : va_W} (B : CX Γ cc nL own R0) {y : MethodName} {index maxL : Nat} {bytes : ByteArray} {rt : FieldType} {r : Int32} {rm : Room} (As : List Value) {w w' wr : va_W} (hM : MI Γ.l Γ.D Γ.cs y bytes maxL rt rm As w r w') (isC isR is : List Nat) (hC : isC.map (fun i => ws[i]?) = w.map some) (hcn : va_nd isC = true) (hRr : isR.map (fun i => ws[i]?) = wr.map some) (hrn : va_nd isR = true) (hdis : ∀ i ∈ isR, i ∉ isC) (hN : is.map (fun i => (wr ++ w')[i]?) = ws'.map some) (hn2 : va_nd is = true) (hg : GoodIn GW (va_wsS own index y (.code y bytes maxL (some rt) :: GW))) (hd : y.cls ≠ "java/lang/invoke/MethodHandle" ∧ y.cls ≠ "java/lang/invoke/VarHandle" ∧ (parseMethodDescriptor y.desc).map (fun d => d.parameters.length) = some As.length) (hR : rm.frames + 1 ≤ R0.frames ∧ 8 + (maxL + 11) + rm.locals ≤ R0.locals) (hroom : k + rm.cells ≤ R0.cells ∧ n + rm.slots ≤ R0.slots) (hstk : st0 = As.reverse ++ st) (hsum : (st.map fun v => v.category).sum ≤ 8) (d : decode cc pc = .ok (.invokestatic index, 3)) (hp : pc + 3 = pc') (kk : X Γ nL (k + rm.cells) (n + rm.slots) pc' lv (.int r :: st) ws') : X Γ nL k n pc lv st0 ws := by
  obtain ⟨p, l, e, R, s, m, args, below, meth, c, Q, A, D, cs⟩ := Γ
  subst hp
  subst hstk
  obtain ⟨hfix, hKN, hA, hlk, rfl⟩ := B
  intro H locs ls hP hD hS hl
  have hPc : va_P D vwCl w H := hP.sub isC (fm_of hC)
  have hDc : va_D A w := hD.sub isC hcn hC
  have hFc := va_free hD hS hA isC hC
  refine va_calli (va_runS (As := As) (rest := st) hfix (hM H.size) (va_cwS As.length hfix.2.2.2.2 hg rfl rfl rfl hd hR) ⟨pr_blind _ _ _ _ _, fun U hU hW => ⟨rfl, by rw [hU], by rw [hU]; exact hPc, KN.warm hW hKN, hDc.weaken (fun _ _ _ _ => trivial)⟩⟩ rfl rfl hl.1 rfl (lv_room hsum) d hroom) hS (fun q _ h => hFc q h) hFc (fun r2 u t H1 locs1 ht hvm hw hB hz1 hk1 hS1 => ?_)
  subst hw
  obtain ⟨hP1, hD1⟩ := hB
  rw [ht] at hP1
  obtain ⟨hP2, hD2⟩ := va_join hP hD isC isR hC hRr hrn hdis hk1 hFc hP1 hD1
  exact kk H1 locs1 ls (hP2.sub is (fm_of hN)) (hD2.sub is hn2 hN) hS1 hl
theorem x_pureSi {Γ : Ctx} {cc : ByteArray} {nL k n pc pc' : Nat} {own : String} {R0 : Room} {lv : List (Nat × Value)} {st st0 : List Value} {ws ws' : va_W} (B : CX Γ cc nL own R0) {y : MethodName} {index maxL : Nat} {bytes : ByteArray} {rt : FieldType} {r : Int32} {rm : Room} (As : List Value) (hM : MI Γ.l Γ.D Γ.cs y bytes maxL rt rm As [] r []) (hg : GoodIn GW (va_wsS own index y (.code y bytes maxL (some rt) :: GW))) (hd : y.cls ≠ "java/lang/invoke/MethodHandle" ∧ y.cls ≠ "java/lang/invoke/VarHandle" ∧ (parseMethodDescriptor y.desc).map (fun d => d.parameters.length) = some As.length) (hR : rm.frames + 1 ≤ R0.frames ∧ 8 + (maxL + 11) + rm.locals ≤ R0.locals) (hroom : k + rm.cells ≤ R0.cells ∧ n + rm.slots ≤ R0.slots) (hstk : st0 = As.reverse ++ st) (hsum : (st.map fun v => v.category).sum ≤ 8) (d : decode cc pc = .ok (.invokestatic index, 3)) (hp : pc + 3 = pc') (kk : X Γ nL (k + rm.cells) (n + rm.slots) pc' lv (.int r :: st) ws) : X Γ nL k n pc lv st0 ws := by
  obtain ⟨p, l, e, R, s, m, args, below, meth, c, Q, A, D, cs⟩ := Γ
  subst hp
  subst hstk
  obtain ⟨hfix, hKN, hA, hlk, rfl⟩ := B
  intro H locs ls hP hD hS hl
  have hPc : va_P D vwCl [] H := fun k9 q9 h9 => by simp at h9
  have hDc : va_D A [] := ⟨fun i j p9 q9 h9 => by simp at h9, fun k9 q9 h9 => by simp at h9⟩
  have hFc : ∀ q, va_A [] H.size q → A q := fun q h => h.elim (fun ⟨k9, e9, h9⟩ => by simp at h9) (fun h9 => hA q (Nat.le_trans hS.1 h9))
  refine va_calli (va_runS (As := As) (rest := st) hfix (hM H.size) (va_cwS As.length hfix.2.2.2.2 hg rfl rfl rfl hd hR) ⟨pr_blind _ _ _ _ _, fun U hU hW => ⟨rfl, by rw [hU], by rw [hU]; exact hPc, KN.warm hW hKN, hDc.weaken (fun _ _ _ _ => trivial)⟩⟩ rfl rfl hl.1 rfl (lv_room hsum) d hroom) hS (fun q _ h => hFc q h) hFc (fun r2 u t H1 locs1 ht hvm hw hB hz1 hk1 hS1 => ?_)
  subst hw
  obtain ⟨hP1, hD1⟩ := hB
  rw [ht] at hP1
  exact kk H1 locs1 ls (hP.kept (fun k9 q9 h9 => hk1 q9.1 (hP k9 q9 h9).lt (fun h8 => h8.elim (fun ⟨k8, e8, h7⟩ => by simp at h7) (fun h7 => Nat.lt_irrefl _ (Nat.lt_of_lt_of_le (hP k9 q9 h9).lt h7))))) hD hS1 hl
theorem x_GSl {Γ : Ctx} {cc : ByteArray} {nL k n pc pc' : Nat} {own : String} {R0 : Room} {lv : List (Nat × Value)} {st st0 : List Value} {ws ws' : va_W} (B : CX Γ cc nL own R0) {y : MethodName} {index maxL : Nat} {bytes : ByteArray} {r : Int64} {rm : Room} (As : List Value) {w w' wr : va_W} (hM : ML Γ.l Γ.D Γ.cs y bytes maxL rm As w r w') (isC isR is : List Nat) (hC : isC.map (fun i => ws[i]?) = w.map some) (hcn : va_nd isC = true) (hRr : isR.map (fun i => ws[i]?) = wr.map some) (hrn : va_nd isR = true) (hdis : ∀ i ∈ isR, i ∉ isC) (hN : is.map (fun i => (wr ++ w')[i]?) = ws'.map some) (hn2 : va_nd is = true) (hg : GoodIn GW (va_wsS own index y (.code y bytes maxL (some .long) :: GW))) (hd : y.cls ≠ "java/lang/invoke/MethodHandle" ∧ y.cls ≠ "java/lang/invoke/VarHandle" ∧ (parseMethodDescriptor y.desc).map (fun d => d.parameters.length) = some As.length) (hR : rm.frames + 1 ≤ R0.frames ∧ 8 + (maxL + 11) + rm.locals ≤ R0.locals) (hroom : k + rm.cells ≤ R0.cells ∧ n + rm.slots ≤ R0.slots) (hstk : st0 = As.reverse ++ st) (hsum : (st.map fun v => v.category).sum ≤ 8) (d : decode cc pc = .ok (.invokestatic index, 3)) (hp : pc + 3 = pc') (kk : X Γ nL (k + rm.cells) (n + rm.slots) pc' lv (.long r :: st) ws') : X Γ nL k n pc lv st0 ws := by
  obtain ⟨p, l, e, R, s, m, args, below, meth, c, Q, A, D, cs⟩ := Γ
  subst hp
  subst hstk
  obtain ⟨hfix, hKN, hA, hlk, rfl⟩ := B
  intro H locs ls hP hD hS hl
  have hPc : va_P D vwCl w H := hP.sub isC (fm_of hC)
  have hDc : va_D A w := hD.sub isC hcn hC
  have hFc := va_free hD hS hA isC hC
  refine va_calll (va_runS (As := As) (rest := st) hfix (hM H.size) (va_cwS As.length hfix.2.2.2.2 hg rfl rfl rfl hd hR) ⟨pr_blind _ _ _ _ _, fun U hU hW => ⟨rfl, by rw [hU], by rw [hU]; exact hPc, KN.warm hW hKN, hDc.weaken (fun _ _ _ _ => trivial)⟩⟩ rfl rfl hl.1 rfl (lv_room hsum) d hroom) hS (fun q _ h => hFc q h) hFc (fun r2 u t H1 locs1 ht hvm hw hB hz1 hk1 hS1 => ?_)
  subst hw
  obtain ⟨hP1, hD1⟩ := hB
  rw [ht] at hP1
  obtain ⟨hP2, hD2⟩ := va_join hP hD isC isR hC hRr hrn hdis hk1 hFc hP1 hD1
  exact kk H1 locs1 ls (hP2.sub is (fm_of hN)) (hD2.sub is hn2 hN) hS1 hl
theorem x_pureSl {Γ : Ctx} {cc : ByteArray} {nL k n pc pc' : Nat} {own : String} {R0 : Room} {lv : List (Nat × Value)} {st st0 : List Value} {ws ws' : va_W} (B : CX Γ cc nL own R0) {y : MethodName} {index maxL : Nat} {bytes : ByteArray} {r : Int64} {rm : Room} (As : List Value) (hM : ML Γ.l Γ.D Γ.cs y bytes maxL rm As [] r []) (hg : GoodIn GW (va_wsS own index y (.code y bytes maxL (some .long) :: GW))) (hd : y.cls ≠ "java/lang/invoke/MethodHandle" ∧ y.cls ≠ "java/lang/invoke/VarHandle" ∧ (parseMethodDescriptor y.desc).map (fun d => d.parameters.length) = some As.length) (hR : rm.frames + 1 ≤ R0.frames ∧ 8 + (maxL + 11) + rm.locals ≤ R0.locals) (hroom : k + rm.cells ≤ R0.cells ∧ n + rm.slots ≤ R0.slots) (hstk : st0 = As.reverse ++ st) (hsum : (st.map fun v => v.category).sum ≤ 8) (d : decode cc pc = .ok (.invokestatic index, 3)) (hp : pc + 3 = pc') (kk : X Γ nL (k + rm.cells) (n + rm.slots) pc' lv (.long r :: st) ws) : X Γ nL k n pc lv st0 ws := by
  obtain ⟨p, l, e, R, s, m, args, below, meth, c, Q, A, D, cs⟩ := Γ
  subst hp
  subst hstk
  obtain ⟨hfix, hKN, hA, hlk, rfl⟩ := B
  intro H locs ls hP hD hS hl
  have hPc : va_P D vwCl [] H := fun k9 q9 h9 => by simp at h9
  have hDc : va_D A [] := ⟨fun i j p9 q9 h9 => by simp at h9, fun k9 q9 h9 => by simp at h9⟩
  have hFc : ∀ q, va_A [] H.size q → A q := fun q h => h.elim (fun ⟨k9, e9, h9⟩ => by simp at h9) (fun h9 => hA q (Nat.le_trans hS.1 h9))
  refine va_calll (va_runS (As := As) (rest := st) hfix (hM H.size) (va_cwS As.length hfix.2.2.2.2 hg rfl rfl rfl hd hR) ⟨pr_blind _ _ _ _ _, fun U hU hW => ⟨rfl, by rw [hU], by rw [hU]; exact hPc, KN.warm hW hKN, hDc.weaken (fun _ _ _ _ => trivial)⟩⟩ rfl rfl hl.1 rfl (lv_room hsum) d hroom) hS (fun q _ h => hFc q h) hFc (fun r2 u t H1 locs1 ht hvm hw hB hz1 hk1 hS1 => ?_)
  subst hw
  obtain ⟨hP1, hD1⟩ := hB
  rw [ht] at hP1
  exact kk H1 locs1 ls (hP.kept (fun k9 q9 h9 => hk1 q9.1 (hP k9 q9 h9).lt (fun h8 => h8.elim (fun ⟨k8, e8, h7⟩ => by simp at h7) (fun h7 => Nat.lt_irrefl _ (Nat.lt_of_lt_of_le (hP k9 q9 h9).lt h7))))) hD hS1 hl
theorem x_GSv {Γ : Ctx} {cc : ByteArray} {nL k n pc pc' : Nat} {own : String} {R0 : Room} {lv : List (Nat × Value)} {st st0 : List Value} {ws ws' : va_W} (B : CX Γ cc nL own R0) {y : MethodName} {index maxL : Nat} {bytes : ByteArray} {rm : Room} (As : List Value) {w w' wr : va_W} (hM : MV Γ.l Γ.D Γ.cs y bytes maxL rm As w w') (isC isR is : List Nat) (hC : isC.map (fun i => ws[i]?) = w.map some) (hcn : va_nd isC = true) (hRr : isR.map (fun i => ws[i]?) = wr.map some) (hrn : va_nd isR = true) (hdis : ∀ i ∈ isR, i ∉ isC) (hN : is.map (fun i => (wr ++ w')[i]?) = ws'.map some) (hn2 : va_nd is = true) (hg : GoodIn GW (va_wsS own index y (.code y bytes maxL none :: GW))) (hd : y.cls ≠ "java/lang/invoke/MethodHandle" ∧ y.cls ≠ "java/lang/invoke/VarHandle" ∧ (parseMethodDescriptor y.desc).map (fun d => d.parameters.length) = some As.length) (hR : rm.frames + 1 ≤ R0.frames ∧ 8 + (maxL + 11) + rm.locals ≤ R0.locals) (hroom : k + rm.cells ≤ R0.cells ∧ n + rm.slots ≤ R0.slots) (hstk : st0 = As.reverse ++ st) (hsum : (st.map fun v => v.category).sum ≤ 8) (d : decode cc pc = .ok (.invokestatic index, 3)) (hp : pc + 3 = pc') (kk : X Γ nL (k + rm.cells) (n + rm.slots) pc' lv (st) ws') : X Γ nL k n pc lv st0 ws := by
  obtain ⟨p, l, e, R, s, m, args, below, meth, c, Q, A, D, cs⟩ := Γ
  subst hp
  subst hstk
  obtain ⟨hfix, hKN, hA, hlk, rfl⟩ := B
  intro H locs ls hP hD hS hl
  have hPc : va_P D vwCl w H := hP.sub isC (fm_of hC)
  have hDc : va_D A w := hD.sub isC hcn hC
  have hFc := va_free hD hS hA isC hC
  refine va_callv (va_runS (As := As) (rest := st) hfix (hM H.size) (va_cwS As.length hfix.2.2.2.2 hg rfl rfl rfl hd hR) ⟨pr_blind _ _ _ _ _, fun U hU hW => ⟨rfl, by rw [hU], by rw [hU]; exact hPc, KN.warm hW hKN, hDc.weaken (fun _ _ _ _ => trivial)⟩⟩ rfl rfl hl.1 rfl (lv_room hsum) d hroom) hS (fun q _ h => hFc q h) hFc (fun u t H1 locs1 ht hvm hw hB hz1 hk1 hS1 => ?_)
  obtain ⟨hP1, hD1⟩ := hB
  rw [ht] at hP1
  obtain ⟨hP2, hD2⟩ := va_join hP hD isC isR hC hRr hrn hdis hk1 hFc hP1 hD1
  exact kk H1 locs1 ls (hP2.sub is (fm_of hN)) (hD2.sub is hn2 hN) hS1 hl
theorem x_pureSv {Γ : Ctx} {cc : ByteArray} {nL k n pc pc' : Nat} {own : String} {R0 : Room} {lv : List (Nat × Value)} {st st0 : List Value} {ws ws' : va_W} (B : CX Γ cc nL own R0) {y : MethodName} {index maxL : Nat} {bytes : ByteArray} {rm : Room} (As : List Value) (hM : MV Γ.l Γ.D Γ.cs y bytes maxL rm As [] []) (hg : GoodIn GW (va_wsS own index y (.code y bytes maxL none :: GW))) (hd : y.cls ≠ "java/lang/invoke/MethodHandle" ∧ y.cls ≠ "java/lang/invoke/VarHandle" ∧ (parseMethodDescriptor y.desc).map (fun d => d.parameters.length) = some As.length) (hR : rm.frames + 1 ≤ R0.frames ∧ 8 + (maxL + 11) + rm.locals ≤ R0.locals) (hroom : k + rm.cells ≤ R0.cells ∧ n + rm.slots ≤ R0.slots) (hstk : st0 = As.reverse ++ st) (hsum : (st.map fun v => v.category).sum ≤ 8) (d : decode cc pc = .ok (.invokestatic index, 3)) (hp : pc + 3 = pc') (kk : X Γ nL (k + rm.cells) (n + rm.slots) pc' lv (st) ws) : X Γ nL k n pc lv st0 ws := by
  obtain ⟨p, l, e, R, s, m, args, below, meth, c, Q, A, D, cs⟩ := Γ
  subst hp
  subst hstk
  obtain ⟨hfix, hKN, hA, hlk, rfl⟩ := B
  intro H locs ls hP hD hS hl
  have hPc : va_P D vwCl [] H := fun k9 q9 h9 => by simp at h9
  have hDc : va_D A [] := ⟨fun i j p9 q9 h9 => by simp at h9, fun k9 q9 h9 => by simp at h9⟩
  have hFc : ∀ q, va_A [] H.size q → A q := fun q h => h.elim (fun ⟨k9, e9, h9⟩ => by simp at h9) (fun h9 => hA q (Nat.le_trans hS.1 h9))
  refine va_callv (va_runS (As := As) (rest := st) hfix (hM H.size) (va_cwS As.length hfix.2.2.2.2 hg rfl rfl rfl hd hR) ⟨pr_blind _ _ _ _ _, fun U hU hW => ⟨rfl, by rw [hU], by rw [hU]; exact hPc, KN.warm hW hKN, hDc.weaken (fun _ _ _ _ => trivial)⟩⟩ rfl rfl hl.1 rfl (lv_room hsum) d hroom) hS (fun q _ h => hFc q h) hFc (fun u t H1 locs1 ht hvm hw hB hz1 hk1 hS1 => ?_)
  obtain ⟨hP1, hD1⟩ := hB
  rw [ht] at hP1
  exact kk H1 locs1 ls (hP.kept (fun k9 q9 h9 => hk1 q9.1 (hP k9 q9 h9).lt (fun h8 => h8.elim (fun ⟨k8, e8, h7⟩ => by simp at h7) (fun h7 => Nat.lt_irrefl _ (Nat.lt_of_lt_of_le (hP k9 q9 h9).lt h7))))) hD hS1 hl
theorem x_GSNi {Γ : Ctx} {cc : ByteArray} {nL k n pc pc' : Nat} {own : String} {R0 : Room} {lv : List (Nat × Value)} {st st0 : List Value} {ws ws' : va_W} (B : CX Γ cc nL own R0) {y : MethodName} {index maxL : Nat} {bytes : ByteArray} {rt : FieldType} {r : Int32} {rm : Room} (As : List Value) {w w' wr : va_W} (hM : MI Γ.l Γ.D Γ.cs y bytes maxL rt rm As w r w') (isC isR is : List Nat) (hC : isC.map (fun i => ws[i]?) = w.map some) (hcn : va_nd isC = true) (hRr : isR.map (fun i => ws[i]?) = wr.map some) (hrn : va_nd isR = true) (hdis : ∀ i ∈ isR, i ∉ isC) (hN : is.map (fun i => (wr ++ w')[i]?) = ws'.map some) (hn2 : va_nd is = true) {host : String} (hnw : Cond.methodLinkNest own index y host ∈ nestW) (hg : GoodIn GW ([.static y, .initialized y.cls, .code y bytes maxL (some rt)] ++ GW)) (hd : y.cls ≠ "java/lang/invoke/MethodHandle" ∧ y.cls ≠ "java/lang/invoke/VarHandle" ∧ (parseMethodDescriptor y.desc).map (fun d => d.parameters.length) = some As.length) (hR : rm.frames + 1 ≤ R0.frames ∧ 8 + (maxL + 11) + rm.locals ≤ R0.locals) (hroom : k + rm.cells ≤ R0.cells ∧ n + rm.slots ≤ R0.slots) (hstk : st0 = As.reverse ++ st) (hsum : (st.map fun v => v.category).sum ≤ 8) (d : decode cc pc = .ok (.invokestatic index, 3)) (hp : pc + 3 = pc') (kk : X Γ nL (k + rm.cells) (n + rm.slots) pc' lv (.int r :: st) ws') : X Γ nL k n pc lv st0 ws := by
  obtain ⟨p, l, e, R, s, m, args, below, meth, c, Q, A, D, cs⟩ := Γ
  subst hp
  subst hstk
  obtain ⟨hfix, hKN, hA, hlk, rfl⟩ := B
  intro H locs ls hP hD hS hl
  have hPc : va_P D vwCl w H := hP.sub isC (fm_of hC)
  have hDc : va_D A w := hD.sub isC hcn hC
  have hFc := va_free hD hS hA isC hC
  have ok9 := fun (w : Cond) (h : w ∈ _) => hfix.2.2.2.2 w (hg w h).1
  refine va_calli (va_runSN (As := As) (rest := st) hfix (hM H.size) ⟨va_cnB As.length hfix.2.2.2.2 (fun w h => hg w (List.mem_append_right [_, _] h)) rfl rfl rfl (hKN.2 _ hnw) (ok9 _ (by simp)) hd hR, ok9 _ (by simp), trivial⟩ ⟨pr_blind _ _ _ _ _, fun U hU hW => ⟨rfl, by rw [hU], by rw [hU]; exact hPc, KN.warm hW hKN, hDc.weaken (fun _ _ _ _ => trivial)⟩⟩ rfl rfl hl.1 rfl (lv_room hsum) d hroom) hS (fun q _ h => hFc q h) hFc (fun r2 u t H1 locs1 ht hvm hw hB hz1 hk1 hS1 => ?_)
  subst hw
  obtain ⟨hP1, hD1⟩ := hB
  rw [ht] at hP1
  obtain ⟨hP2, hD2⟩ := va_join hP hD isC isR hC hRr hrn hdis hk1 hFc hP1 hD1
  exact kk H1 locs1 ls (hP2.sub is (fm_of hN)) (hD2.sub is hn2 hN) hS1 hl
theorem x_GSNl {Γ : Ctx} {cc : ByteArray} {nL k n pc pc' : Nat} {own : String} {R0 : Room} {lv : List (Nat × Value)} {st st0 : List Value} {ws ws' : va_W} (B : CX Γ cc nL own R0) {y : MethodName} {index maxL : Nat} {bytes : ByteArray} {r : Int64} {rm : Room} (As : List Value) {w w' wr : va_W} (hM : ML Γ.l Γ.D Γ.cs y bytes maxL rm As w r w') (isC isR is : List Nat) (hC : isC.map (fun i => ws[i]?) = w.map some) (hcn : va_nd isC = true) (hRr : isR.map (fun i => ws[i]?) = wr.map some) (hrn : va_nd isR = true) (hdis : ∀ i ∈ isR, i ∉ isC) (hN : is.map (fun i => (wr ++ w')[i]?) = ws'.map some) (hn2 : va_nd is = true) {host : String} (hnw : Cond.methodLinkNest own index y host ∈ nestW) (hg : GoodIn GW ([.static y, .initialized y.cls, .code y bytes maxL (some .long)] ++ GW)) (hd : y.cls ≠ "java/lang/invoke/MethodHandle" ∧ y.cls ≠ "java/lang/invoke/VarHandle" ∧ (parseMethodDescriptor y.desc).map (fun d => d.parameters.length) = some As.length) (hR : rm.frames + 1 ≤ R0.frames ∧ 8 + (maxL + 11) + rm.locals ≤ R0.locals) (hroom : k + rm.cells ≤ R0.cells ∧ n + rm.slots ≤ R0.slots) (hstk : st0 = As.reverse ++ st) (hsum : (st.map fun v => v.category).sum ≤ 8) (d : decode cc pc = .ok (.invokestatic index, 3)) (hp : pc + 3 = pc') (kk : X Γ nL (k + rm.cells) (n + rm.slots) pc' lv (.long r :: st) ws') : X Γ nL k n pc lv st0 ws := by
  obtain ⟨p, l, e, R, s, m, args, below, meth, c, Q, A, D, cs⟩ := Γ
  subst hp
  subst hstk
  obtain ⟨hfix, hKN, hA, hlk, rfl⟩ := B
  intro H locs ls hP hD hS hl
  have hPc : va_P D vwCl w H := hP.sub isC (fm_of hC)
  have hDc : va_D A w := hD.sub isC hcn hC
  have hFc := va_free hD hS hA isC hC
  have ok9 := fun (w : Cond) (h : w ∈ _) => hfix.2.2.2.2 w (hg w h).1
  refine va_calll (va_runSN (As := As) (rest := st) hfix (hM H.size) ⟨va_cnB As.length hfix.2.2.2.2 (fun w h => hg w (List.mem_append_right [_, _] h)) rfl rfl rfl (hKN.2 _ hnw) (ok9 _ (by simp)) hd hR, ok9 _ (by simp), trivial⟩ ⟨pr_blind _ _ _ _ _, fun U hU hW => ⟨rfl, by rw [hU], by rw [hU]; exact hPc, KN.warm hW hKN, hDc.weaken (fun _ _ _ _ => trivial)⟩⟩ rfl rfl hl.1 rfl (lv_room hsum) d hroom) hS (fun q _ h => hFc q h) hFc (fun r2 u t H1 locs1 ht hvm hw hB hz1 hk1 hS1 => ?_)
  subst hw
  obtain ⟨hP1, hD1⟩ := hB
  rw [ht] at hP1
  obtain ⟨hP2, hD2⟩ := va_join hP hD isC isR hC hRr hrn hdis hk1 hFc hP1 hD1
  exact kk H1 locs1 ls (hP2.sub is (fm_of hN)) (hD2.sub is hn2 hN) hS1 hl
theorem x_GSNv {Γ : Ctx} {cc : ByteArray} {nL k n pc pc' : Nat} {own : String} {R0 : Room} {lv : List (Nat × Value)} {st st0 : List Value} {ws ws' : va_W} (B : CX Γ cc nL own R0) {y : MethodName} {index maxL : Nat} {bytes : ByteArray} {rm : Room} (As : List Value) {w w' wr : va_W} (hM : MV Γ.l Γ.D Γ.cs y bytes maxL rm As w w') (isC isR is : List Nat) (hC : isC.map (fun i => ws[i]?) = w.map some) (hcn : va_nd isC = true) (hRr : isR.map (fun i => ws[i]?) = wr.map some) (hrn : va_nd isR = true) (hdis : ∀ i ∈ isR, i ∉ isC) (hN : is.map (fun i => (wr ++ w')[i]?) = ws'.map some) (hn2 : va_nd is = true) {host : String} (hnw : Cond.methodLinkNest own index y host ∈ nestW) (hg : GoodIn GW ([.static y, .initialized y.cls, .code y bytes maxL none] ++ GW)) (hd : y.cls ≠ "java/lang/invoke/MethodHandle" ∧ y.cls ≠ "java/lang/invoke/VarHandle" ∧ (parseMethodDescriptor y.desc).map (fun d => d.parameters.length) = some As.length) (hR : rm.frames + 1 ≤ R0.frames ∧ 8 + (maxL + 11) + rm.locals ≤ R0.locals) (hroom : k + rm.cells ≤ R0.cells ∧ n + rm.slots ≤ R0.slots) (hstk : st0 = As.reverse ++ st) (hsum : (st.map fun v => v.category).sum ≤ 8) (d : decode cc pc = .ok (.invokestatic index, 3)) (hp : pc + 3 = pc') (kk : X Γ nL (k + rm.cells) (n + rm.slots) pc' lv (st) ws') : X Γ nL k n pc lv st0 ws := by
  obtain ⟨p, l, e, R, s, m, args, below, meth, c, Q, A, D, cs⟩ := Γ
  subst hp
  subst hstk
  obtain ⟨hfix, hKN, hA, hlk, rfl⟩ := B
  intro H locs ls hP hD hS hl
  have hPc : va_P D vwCl w H := hP.sub isC (fm_of hC)
  have hDc : va_D A w := hD.sub isC hcn hC
  have hFc := va_free hD hS hA isC hC
  have ok9 := fun (w : Cond) (h : w ∈ _) => hfix.2.2.2.2 w (hg w h).1
  refine va_callv (va_runSN (As := As) (rest := st) hfix (hM H.size) ⟨va_cnB As.length hfix.2.2.2.2 (fun w h => hg w (List.mem_append_right [_, _] h)) rfl rfl rfl (hKN.2 _ hnw) (ok9 _ (by simp)) hd hR, ok9 _ (by simp), trivial⟩ ⟨pr_blind _ _ _ _ _, fun U hU hW => ⟨rfl, by rw [hU], by rw [hU]; exact hPc, KN.warm hW hKN, hDc.weaken (fun _ _ _ _ => trivial)⟩⟩ rfl rfl hl.1 rfl (lv_room hsum) d hroom) hS (fun q _ h => hFc q h) hFc (fun u t H1 locs1 ht hvm hw hB hz1 hk1 hS1 => ?_)
  obtain ⟨hP1, hD1⟩ := hB
  rw [ht] at hP1
  obtain ⟨hP2, hD2⟩ := va_join hP hD isC isR hC hRr hrn hdis hk1 hFc hP1 hD1
  exact kk H1 locs1 ls (hP2.sub is (fm_of hN)) (hD2.sub is hn2 hN) hS1 hl
end ROWS3
end
section
theorem dX2_valueAt_0 : decode cX2_valueAt 0 = .ok (.iload_n 1, 1) := by decide +kernel
theorem dX2_valueAt_1 : decode cX2_valueAt 1 = .ok (.ifCond .lt 15, 3) := by decide +kernel
theorem dX2_valueAt_4 : decode cX2_valueAt 4 = .ok (.iload_n 1, 1) := by decide +kernel
theorem dX2_valueAt_5 : decode cX2_valueAt 5 = .ok (.aload_n 0, 1) := by decide +kernel
theorem dX2_valueAt_6 : decode cX2_valueAt 6 = .ok (.arraylength, 1) := by decide +kernel
theorem dX2_valueAt_7 : decode cX2_valueAt 7 = .ok (.if_icmp .ge 9, 3) := by decide +kernel
theorem dX2_valueAt_10 : decode cX2_valueAt 10 = .ok (.aload_n 0, 1) := by decide +kernel
theorem dX2_valueAt_11 : decode cX2_valueAt 11 = .ok (.iload_n 1, 1) := by decide +kernel
theorem dX2_valueAt_12 : decode cX2_valueAt 12 = .ok (.iaload, 1) := by decide +kernel
theorem dX2_valueAt_13 : decode cX2_valueAt 13 = .ok (.goto 4, 3) := by decide +kernel
theorem dX2_valueAt_16 : decode cX2_valueAt 16 = .ok (.iconst (-1), 1) := by decide +kernel
theorem dX2_valueAt_17 : decode cX2_valueAt 17 = .ok (.ireturn, 1) := by decide +kernel
theorem dX2_putAt_0 : decode cX2_putAt 0 = .ok (.iload_n 1, 1) := by decide +kernel
theorem dX2_putAt_1 : decode cX2_putAt 1 = .ok (.ifCond .lt 13, 3) := by decide +kernel
theorem dX2_putAt_4 : decode cX2_putAt 4 = .ok (.iload_n 1, 1) := by decide +kernel
theorem dX2_putAt_5 : decode cX2_putAt 5 = .ok (.aload_n 0, 1) := by decide +kernel
theorem dX2_putAt_6 : decode cX2_putAt 6 = .ok (.arraylength, 1) := by decide +kernel
theorem dX2_putAt_7 : decode cX2_putAt 7 = .ok (.if_icmp .ge 7, 3) := by decide +kernel
theorem dX2_putAt_10 : decode cX2_putAt 10 = .ok (.aload_n 0, 1) := by decide +kernel
theorem dX2_putAt_11 : decode cX2_putAt 11 = .ok (.iload_n 1, 1) := by decide +kernel
theorem dX2_putAt_12 : decode cX2_putAt 12 = .ok (.iload_n 2, 1) := by decide +kernel
theorem dX2_putAt_13 : decode cX2_putAt 13 = .ok (.iastore, 1) := by decide +kernel
theorem dX2_putAt_14 : decode cX2_putAt 14 = .ok (.return_, 1) := by decide +kernel
abbrev OB : Type := (Nat → Int32) × (Nat → Nat → Int32)
abbrev MO : Type := (Nat → Int32) × (Nat → Nat → Int32) × Int64
abbrev BO : Type := (Nat → Int32) × OB × (Nat → OB) × OB
def wS (cA : ClassId) (a : Nat → Nat) (S : OB) : va_W := [(a 0, .inr (1, [.ref (a 1), .ref (a 2), .ref (a 3), .ref (a 4), .int (S.1 4), .ref (a 5), .ref (a 6), .int (S.1 7), .int (S.1 8), .int (S.1 9), .int (S.1 10), .int (S.1 11), .int (S.1 12), .int (S.1 13)])), (a 1, .inl (cA, 32, .inl (S.2 0))), (a 2, .inl (cA, 32, .inl (S.2 1))), (a 3, .inl (cA, 32, .inl (S.2 2))), (a 4, .inl (cA, 32, .inl (S.2 3))), (a 5, .inl (cA, 10, .inl (S.2 5))), (a 6, .inl (cA, 10, .inl (S.2 6)))]
def wT (cA : ClassId) (a : Nat → Nat) (S : OB) : va_W := [(a 0, .inr (0, [.ref (a 1), .int (S.1 1)])), (a 1, .inl (cA, 60, .inl (S.2 0)))]
def wM (cA : ClassId) (a : Nat → Nat) (S : MO) : va_W := [(a 0, .inr (3, [.int (S.1 0), .ref (a 1), .int (S.1 2), .ref (a 2), .int (S.1 4), .int (S.1 5), .int (S.1 6), .int (S.1 7), .int (S.1 8), .long S.2.2])), (a 1, .inl (cA, 1085, .inl (S.2.1 1))), (a 2, .inl (cA, 60, .inl (S.2.1 3)))]
def wB (cs : CS) (a : Nat → Nat → Nat) (S : BO) : va_W := (a 0 0, .inr (2, [.ref (a 1 0), .ref (a 0 1), .int (S.1 2), .int (S.1 3), .ref (a 2 0)])) :: (a 0 1, .inl (cs.2.2, 6, .inr (.inr (.inr (.inr (fun i => some (a (3 + i) 0))))))) :: (wS cs.1 (a 1) S.2.1 ++ (wT cs.1 (a 2) S.2.2.2 ++ (wS cs.1 (a 3) (S.2.2.1 0) ++ (wS cs.1 (a 4) (S.2.2.1 1) ++ (wS cs.1 (a 5) (S.2.2.1 2) ++ (wS cs.1 (a 6) (S.2.2.1 3) ++ (wS cs.1 (a 7) (S.2.2.1 4) ++ wS cs.1 (a 8) (S.2.2.1 5))))))))
theorem wf_RX2_10 : Cond.fieldLink RX2 10 "DictationBelt" "now" "LDictationBelt$State;" ∈ GW := List.mem_of_getElem? (i := 16) (by decide +kernel)
theorem wf_RX2_16 : Cond.fieldLink RX2 16 "DictationBelt" "saved" "[LDictationBelt$State;" ∈ GW := List.mem_of_getElem? (i := 17) (by decide +kernel)
theorem wf_RX2_20 : Cond.fieldLink RX2 20 "DictationBelt" "nextSlot" "I" ∈ GW := List.mem_of_getElem? (i := 18) (by decide +kernel)
theorem wf_RX2_24 : Cond.fieldLink RX2 24 "DictationBelt" "savedCount" "I" ∈ GW := List.mem_of_getElem? (i := 19) (by decide +kernel)
theorem wf_RX2_30 : Cond.fieldLink RX2 30 "DictationBelt" "text" "LDictationBelt$OrderText;" ∈ GW := List.mem_of_getElem? (i := 23) (by decide +kernel)
theorem wf_RX1_9 : Cond.fieldLink RX1 9 "DictationBelt$State" "owners" "[I" ∈ GW := List.mem_of_getElem? (i := 29) (by decide +kernel)
theorem wf_RX1_15 : Cond.fieldLink RX1 15 "DictationBelt$State" "sounds" "[I" ∈ GW := List.mem_of_getElem? (i := 30) (by decide +kernel)
theorem wf_RX1_18 : Cond.fieldLink RX1 18 "DictationBelt$State" "carbons" "[I" ∈ GW := List.mem_of_getElem? (i := 31) (by decide +kernel)
theorem wf_RX1_21 : Cond.fieldLink RX1 21 "DictationBelt$State" "order" "[I" ∈ GW := List.mem_of_getElem? (i := 32) (by decide +kernel)
theorem wf_RX1_24 : Cond.fieldLink RX1 24 "DictationBelt$State" "used" "I" ∈ GW := List.mem_of_getElem? (i := 33) (by decide +kernel)
theorem wf_RX1_28 : Cond.fieldLink RX1 28 "DictationBelt$State" "flags" "[I" ∈ GW := List.mem_of_getElem? (i := 34) (by decide +kernel)
theorem wf_RX1_31 : Cond.fieldLink RX1 31 "DictationBelt$State" "losses" "[I" ∈ GW := List.mem_of_getElem? (i := 35) (by decide +kernel)
theorem wf_RX1_34 : Cond.fieldLink RX1 34 "DictationBelt$State" "count" "I" ∈ GW := List.mem_of_getElem? (i := 36) (by decide +kernel)
theorem wf_RX1_37 : Cond.fieldLink RX1 37 "DictationBelt$State" "isRunning" "Z" ∈ GW := List.mem_of_getElem? (i := 37) (by decide +kernel)
theorem wf_RX1_41 : Cond.fieldLink RX1 41 "DictationBelt$State" "head" "I" ∈ GW := List.mem_of_getElem? (i := 38) (by decide +kernel)
theorem wf_RX1_44 : Cond.fieldLink RX1 44 "DictationBelt$State" "spoken" "I" ∈ GW := List.mem_of_getElem? (i := 39) (by decide +kernel)
theorem wf_RX1_47 : Cond.fieldLink RX1 47 "DictationBelt$State" "gone" "I" ∈ GW := List.mem_of_getElem? (i := 40) (by decide +kernel)
theorem wf_RX1_50 : Cond.fieldLink RX1 50 "DictationBelt$State" "player" "I" ∈ GW := List.mem_of_getElem? (i := 41) (by decide +kernel)
theorem wf_RX1_53 : Cond.fieldLink RX1 53 "DictationBelt$State" "place" "I" ∈ GW := List.mem_of_getElem? (i := 42) (by decide +kernel)
theorem wf_RX0_9 : Cond.fieldLink RX0 9 "DictationBelt$OrderText" "codes" "[I" ∈ GW := List.mem_of_getElem? (i := 47) (by decide +kernel)
theorem wf_RX0_15 : Cond.fieldLink RX0 15 "DictationBelt$OrderText" "length" "I" ∈ GW := List.mem_of_getElem? (i := 48) (by decide +kernel)
theorem wf_RX3_7 : Cond.fieldLink RX3 7 "DictationBeltModel" "s" "[I" ∈ GW := List.mem_of_getElem? (i := 53) (by decide +kernel)
theorem wf_RX3_13 : Cond.fieldLink RX3 13 "DictationBeltModel" "text" "[I" ∈ GW := List.mem_of_getElem? (i := 54) (by decide +kernel)
theorem wf_RX3_16 : Cond.fieldLink RX3 16 "DictationBeltModel" "thrown" "I" ∈ GW := List.mem_of_getElem? (i := 126) (by decide +kernel)
theorem wf_RX3_53 : Cond.fieldLink RX3 53 "DictationBeltModel" "saved" "I" ∈ GW := List.mem_of_getElem? (i := 131) (by decide +kernel)
theorem wf_RX2_52 : Cond.fieldLink RX2 52 "DictationBelt$State" "isRunning" "Z" ∈ GW := List.mem_of_getElem? (i := 159) (by decide +kernel)
theorem wf_RX2_96 : Cond.fieldLink RX2 96 "DictationBelt$State" "head" "I" ∈ GW := List.mem_of_getElem? (i := 308) (by decide +kernel)
theorem wf_RX2_99 : Cond.fieldLink RX2 99 "DictationBelt$State" "count" "I" ∈ GW := List.mem_of_getElem? (i := 323) (by decide +kernel)
theorem wf_RX2_112 : Cond.fieldLink RX2 112 "DictationBelt$State" "sounds" "[I" ∈ GW := List.mem_of_getElem? (i := 368) (by decide +kernel)
theorem wf_RX2_123 : Cond.fieldLink RX2 123 "DictationBelt$State" "losses" "[I" ∈ GW := List.mem_of_getElem? (i := 419) (by decide +kernel)
theorem wf_RX2_126 : Cond.fieldLink RX2 126 "DictationBelt$State" "owners" "[I" ∈ GW := List.mem_of_getElem? (i := 431) (by decide +kernel)
theorem wf_RX2_129 : Cond.fieldLink RX2 129 "DictationBelt$State" "used" "I" ∈ GW := List.mem_of_getElem? (i := 440) (by decide +kernel)
theorem wf_RX2_132 : Cond.fieldLink RX2 132 "DictationBelt$State" "spoken" "I" ∈ GW := List.mem_of_getElem? (i := 449) (by decide +kernel)
theorem wf_RX2_135 : Cond.fieldLink RX2 135 "DictationBelt$State" "gone" "I" ∈ GW := List.mem_of_getElem? (i := 458) (by decide +kernel)
theorem wk_RX2_138 : Cond.constantDouble RX2 138 (4629700416936869888) ∈ GW := List.mem_of_getElem? (i := 467) (by decide +kernel)
theorem wk_RX3_95 : Cond.constantDouble RX3 95 (4629700416936869888) ∈ GW := List.mem_of_getElem? (i := 472) (by decide +kernel)
theorem wf_RX2_157 : Cond.fieldLink RX2 157 "DictationBelt$State" "player" "I" ∈ GW := List.mem_of_getElem? (i := 503) (by decide +kernel)
theorem wf_RX2_160 : Cond.fieldLink RX2 160 "DictationBelt$State" "place" "I" ∈ GW := List.mem_of_getElem? (i := 552) (by decide +kernel)
theorem wf_RX2_167 : Cond.fieldLink RX2 167 "DictationBelt$State" "carbons" "[I" ∈ GW := List.mem_of_getElem? (i := 576) (by decide +kernel)
theorem wf_RX2_187 : Cond.fieldLink RX2 187 "DictationBelt$OrderText" "length" "I" ∈ GW := List.mem_of_getElem? (i := 662) (by decide +kernel)
theorem wf_RX3_115 : Cond.fieldLink RX3 115 "DictationBeltModel" "length" "I" ∈ GW := List.mem_of_getElem? (i := 671) (by decide +kernel)
theorem wf_RX3_118 : Cond.fieldLink RX3 118 "DictationBeltModel" "at" "I" ∈ GW := List.mem_of_getElem? (i := 704) (by decide +kernel)
theorem wf_RX3_124 : Cond.fieldLink RX3 124 "DictationBeltModel" "letter" "I" ∈ GW := List.mem_of_getElem? (i := 713) (by decide +kernel)
theorem wf_RX3_133 : Cond.fieldLink RX3 133 "DictationBeltModel" "second" "I" ∈ GW := List.mem_of_getElem? (i := 714) (by decide +kernel)
theorem wf_RX3_136 : Cond.fieldLink RX3 136 "DictationBeltModel" "first" "I" ∈ GW := List.mem_of_getElem? (i := 715) (by decide +kernel)
theorem wf_RX2_265 : Cond.fieldLink RX2 265 "DictationBelt$OrderText" "codes" "[I" ∈ GW := List.mem_of_getElem? (i := 746) (by decide +kernel)
theorem wk_RX2_216 : Cond.constantLong RX2 216 (4444) ∈ GW := List.mem_of_getElem? (i := 790) (by decide +kernel)
theorem wk_RX2_258 : Cond.constantLong RX2 258 (31) ∈ GW := List.mem_of_getElem? (i := 795) (by decide +kernel)
theorem wf_RX2_255 : Cond.fieldLink RX2 255 "DictationBelt$State" "order" "[I" ∈ GW := List.mem_of_getElem? (i := 810) (by decide +kernel)
theorem wk_RX3_157 : Cond.constantLong RX3 157 (4444) ∈ GW := List.mem_of_getElem? (i := 815) (by decide +kernel)
theorem wf_RX3_153 : Cond.fieldLink RX3 153 "DictationBeltModel" "hash" "J" ∈ GW := List.mem_of_getElem? (i := 816) (by decide +kernel)
theorem wk_RX3_151 : Cond.constantLong RX3 151 (31) ∈ GW := List.mem_of_getElem? (i := 821) (by decide +kernel)
abbrev gv_valueAt_idx : Nat := 119
abbrev gv_putAt_idx : Nat := 163
theorem gs_valueAt : GoodIn GW ([.static yX2_valueAt, .initialized yX2_valueAt.cls, .code yX2_valueAt cX2_valueAt 2 (some .int)] ++ GW) := gw_app [.static yX2_valueAt, .initialized RX2, .code yX2_valueAt cX2_valueAt 2 (some .int)] [78, 2, 79] (by decide +kernel) (by decide +kernel)
theorem gs_RX2_valueAt : GoodIn GW (va_wsS RX2 119 yX2_valueAt (.code yX2_valueAt cX2_valueAt 2 (some .int) :: GW)) := gw_app [.methodLink RX2 119 yX2_valueAt, .static yX2_valueAt, .initialized RX2, .code yX2_valueAt cX2_valueAt 2 (some .int)] [377, 78, 2, 79] (by decide +kernel) (by decide +kernel)
theorem np_valueAt : yX2_valueAt.cls ≠ "java/lang/invoke/MethodHandle" ∧ yX2_valueAt.cls ≠ "java/lang/invoke/VarHandle" ∧ (parseMethodDescriptor yX2_valueAt.desc).map (fun d => d.parameters.length) = some 2 := by decide +kernel
theorem gs_putAt : GoodIn GW ([.static yX2_putAt, .initialized yX2_putAt.cls, .code yX2_putAt cX2_putAt 3 none] ++ GW) := gw_app [.static yX2_putAt, .initialized RX2, .code yX2_putAt cX2_putAt 3 none] [108, 2, 109] (by decide +kernel) (by decide +kernel)
theorem gs_RX2_putAt : GoodIn GW (va_wsS RX2 163 yX2_putAt (.code yX2_putAt cX2_putAt 3 none :: GW)) := gw_app [.methodLink RX2 163 yX2_putAt, .static yX2_putAt, .initialized RX2, .code yX2_putAt cX2_putAt 3 none] [564, 108, 2, 109] (by decide +kernel) (by decide +kernel)
theorem np_putAt : yX2_putAt.cls ≠ "java/lang/invoke/MethodHandle" ∧ yX2_putAt.cls ≠ "java/lang/invoke/VarHandle" ∧ (parseMethodDescriptor yX2_putAt.desc).map (fun d => d.parameters.length) = some 3 := by decide +kernel
abbrev rmL : Room := { frames := 0, cells := 0, slots := 0, locals := 0 }
abbrev wA (cA : ClassId) (h N : Nat) (f : Nat → Int32) : va_W := [(h, .inl (cA, N, .inl f))]
set_option maxHeartbeats 4000000 in
theorem c_valueAt (l : Launch) (D : va_G) (cs : CS) (N : Nat) (hN : N < 2 ^ 31) (h : Nat) (i : Int32) (f : Nat → Int32) : MI l D cs yX2_valueAt cX2_valueAt 2 .int rmL [.ref h, .int i] (wA cs.1 h N f) (vAt N f i) (wA cs.1 h N f) := by
  refine MI_of (by decide) (Nat.le_of_ble_eq_true rfl) ?_
  rintro Γ rfl rfl rfl B ret
  show X Γ 2 0 0 0 [(0, .ref h), (1, .int i)] [] (wA Γ.cs.1 h N f)
  refine x_iload_n B (pc' := 1) 1 dX2_valueAt_0 rfl rfl rfl ?_
  refine x_if_lt B 16 4 dX2_valueAt_1 (by decide) rfl (fun h1 => ?_) (fun h1 => ?_)
  · refine x_iconst B (pc' := 17) (-1) dX2_valueAt_16 (by decide) rfl ?_
    rw [show (-1 : Int32) = vAt N f i by rw [vAt, if_pos h1]]
    exact ret rfl (Nat.zero_le _) (Nat.zero_le _) dX2_valueAt_17
  · refine x_iload_n B (pc' := 5) 1 dX2_valueAt_4 rfl rfl rfl ?_
    refine x_aload_n B (pc' := 6) 0 dX2_valueAt_5 rfl rfl rfl ?_
    refine x_alen B (pc' := 7) (nI N) 0 rfl rfl dX2_valueAt_6 rfl ?_
    refine x_icmp_ge B 16 10 dX2_valueAt_7 (by decide) rfl (fun h2 => ?_) (fun h2 => ?_)
    · refine x_iconst B (pc' := 17) (-1) dX2_valueAt_16 (by decide) rfl ?_
      rw [show (-1 : Int32) = vAt N f i by rw [vAt, if_neg h1, if_pos h2]]
      exact ret rfl (Nat.zero_le _) (Nat.zero_le _) dX2_valueAt_17
    · have h3 : vp_in i N := by
        rcases pk_ix i hN with q | q | ⟨j, q1, q2⟩
        · exact absurd q h1
        · exact absurd q h2
        · rw [q2]; exact vp_in_nI q1 hN
      refine x_aload_n B (pc' := 11) 0 dX2_valueAt_10 rfl rfl rfl ?_
      refine x_iload_n B (pc' := 12) 1 dX2_valueAt_11 rfl rfl rfl ?_
      refine x_iald B (pc' := 13) 0 rfl h3 dX2_valueAt_12 rfl ?_
      refine x_goto B (pc' := 17) dX2_valueAt_13 (by decide) ?_
      rw [show f i.toNatClampNeg = vAt N f i by rw [vAt, if_neg h1, if_neg h2]]
      exact ret rfl (Nat.zero_le _) (Nat.zero_le _) dX2_valueAt_17
set_option maxHeartbeats 4000000 in
theorem c_putAt (l : Launch) (D : va_G) (cs : CS) (N : Nat) (hN : N < 2 ^ 31) (h : Nat) (i v : Int32) (f : Nat → Int32) : MV l D cs yX2_putAt cX2_putAt 3 rmL [.ref h, .int i, .int v] (wA cs.1 h N f) (wA cs.1 h N (pAt N f i v)) := by
  refine MV_of (by decide) (Nat.le_of_ble_eq_true rfl) ?_
  rintro Γ rfl rfl rfl B ret
  show X Γ 3 0 0 0 [(0, .ref h), (1, .int i), (2, .int v)] [] (wA Γ.cs.1 h N f)
  refine x_iload_n B (pc' := 1) 1 dX2_putAt_0 rfl rfl rfl ?_
  refine x_if_lt B 14 4 dX2_putAt_1 (by decide) rfl (fun h1 => ?_) (fun h1 => ?_)
  · rw [show f = pAt N f i v by rw [pAt, if_pos h1]]
    exact ret (Nat.zero_le _) (Nat.zero_le _) dX2_putAt_14
  · refine x_iload_n B (pc' := 5) 1 dX2_putAt_4 rfl rfl rfl ?_
    refine x_aload_n B (pc' := 6) 0 dX2_putAt_5 rfl rfl rfl ?_
    refine x_alen B (pc' := 7) (nI N) 0 rfl rfl dX2_putAt_6 rfl ?_
    refine x_icmp_ge B 14 10 dX2_putAt_7 (by decide) rfl (fun h2 => ?_) (fun h2 => ?_)
    · rw [show f = pAt N f i v by rw [pAt, if_neg h1, if_pos h2]]
      exact ret (Nat.zero_le _) (Nat.zero_le _) dX2_putAt_14
    · have h3 : vp_in i N := by
        rcases pk_ix i hN with q | q | ⟨j, q1, q2⟩
        · exact absurd q h1
        · exact absurd q h2
        · rw [q2]; exact vp_in_nI q1 hN
      refine x_aload_n B (pc' := 11) 0 dX2_putAt_10 rfl rfl rfl ?_
      refine x_iload_n B (pc' := 12) 1 dX2_putAt_11 rfl rfl rfl ?_
      refine x_iload_n B (pc' := 13) 2 dX2_putAt_12 rfl rfl rfl ?_
      refine x_iast (ws' := wA Γ.cs.1 h N (pAt N f i v)) B (pc' := 14) 0 rfl h3 (by rw [pAt, if_neg h1, if_neg h2]; rfl) dX2_putAt_13 rfl ?_
      exact ret (Nat.zero_le _) (Nat.zero_le _) dX2_putAt_14
theorem s_get4 {Γ : Ctx} {cc : ByteArray} {nL k n pc pc' : Nat} {own : String} {R0 : Room} {lv : List (Nat × Value)} {st : List Value} {index : Nat} {a : Nat → Nat} {S : OB} (B : CX Γ cc nL own R0) (hw : Cond.fieldLink own index "DictationBelt$State" "used" "I" ∈ GW) (d : decode cc pc = .ok (.getfield index, 3)) (hp : pc + 3 = pc') (kk : X Γ nL k n pc' lv (.int (S.1 4) :: st) (wS Γ.cs.1 a S)) : X Γ nL k n pc lv (.ref (a 0) :: st) (wS Γ.cs.1 a S) :=
  x_getf B 0 4 rfl rfl inlX1 (by decide) hw rfl d hp kk
theorem s_put4 {Γ : Ctx} {cc : ByteArray} {nL k n pc pc' : Nat} {own : String} {R0 : Room} {lv : List (Nat × Value)} {st : List Value} {index : Nat} {a : Nat → Nat} {S : OB} {v : Int32} (B : CX Γ cc nL own R0) (hw : Cond.fieldLink own index "DictationBelt$State" "used" "I" ∈ GW) (d : decode cc pc = .ok (.putfield index, 3)) (hp : pc + 3 = pc') (kk : X Γ nL k n pc' lv st (wS Γ.cs.1 a (upd S.1 4 v, S.2))) : X Γ nL k n pc lv (.int v :: .ref (a 0) :: st) (wS Γ.cs.1 a S) :=
  x_putf B 0 4 tyX1 tyX1_ok nmX1 rfl rfl inlX1 (by decide) hw rfl rfl rfl (Nat.le_of_ble_eq_true rfl) rfl d hp kk
theorem s_get7 {Γ : Ctx} {cc : ByteArray} {nL k n pc pc' : Nat} {own : String} {R0 : Room} {lv : List (Nat × Value)} {st : List Value} {index : Nat} {a : Nat → Nat} {S : OB} (B : CX Γ cc nL own R0) (hw : Cond.fieldLink own index "DictationBelt$State" "count" "I" ∈ GW) (d : decode cc pc = .ok (.getfield index, 3)) (hp : pc + 3 = pc') (kk : X Γ nL k n pc' lv (.int (S.1 7) :: st) (wS Γ.cs.1 a S)) : X Γ nL k n pc lv (.ref (a 0) :: st) (wS Γ.cs.1 a S) :=
  x_getf B 0 7 rfl rfl inlX1 (by decide) hw rfl d hp kk
theorem s_put7 {Γ : Ctx} {cc : ByteArray} {nL k n pc pc' : Nat} {own : String} {R0 : Room} {lv : List (Nat × Value)} {st : List Value} {index : Nat} {a : Nat → Nat} {S : OB} {v : Int32} (B : CX Γ cc nL own R0) (hw : Cond.fieldLink own index "DictationBelt$State" "count" "I" ∈ GW) (d : decode cc pc = .ok (.putfield index, 3)) (hp : pc + 3 = pc') (kk : X Γ nL k n pc' lv st (wS Γ.cs.1 a (upd S.1 7 v, S.2))) : X Γ nL k n pc lv (.int v :: .ref (a 0) :: st) (wS Γ.cs.1 a S) :=
  x_putf B 0 7 tyX1 tyX1_ok nmX1 rfl rfl inlX1 (by decide) hw rfl rfl rfl (Nat.le_of_ble_eq_true rfl) rfl d hp kk
theorem s_get8 {Γ : Ctx} {cc : ByteArray} {nL k n pc pc' : Nat} {own : String} {R0 : Room} {lv : List (Nat × Value)} {st : List Value} {index : Nat} {a : Nat → Nat} {S : OB} (B : CX Γ cc nL own R0) (hw : Cond.fieldLink own index "DictationBelt$State" "isRunning" "Z" ∈ GW) (d : decode cc pc = .ok (.getfield index, 3)) (hp : pc + 3 = pc') (kk : X Γ nL k n pc' lv (.int (S.1 8) :: st) (wS Γ.cs.1 a S)) : X Γ nL k n pc lv (.ref (a 0) :: st) (wS Γ.cs.1 a S) :=
  x_getf B 0 8 rfl rfl inlX1 (by decide) hw rfl d hp kk
theorem s_put8 {Γ : Ctx} {cc : ByteArray} {nL k n pc pc' : Nat} {own : String} {R0 : Room} {lv : List (Nat × Value)} {st : List Value} {index : Nat} {a : Nat → Nat} {S : OB} {v : Int32} (hv : v = 0 ∨ v = 1) (B : CX Γ cc nL own R0) (hw : Cond.fieldLink own index "DictationBelt$State" "isRunning" "Z" ∈ GW) (d : decode cc pc = .ok (.putfield index, 3)) (hp : pc + 3 = pc') (kk : X Γ nL k n pc' lv st (wS Γ.cs.1 a (upd S.1 8 v, S.2))) : X Γ nL k n pc lv (.int v :: .ref (a 0) :: st) (wS Γ.cs.1 a S) :=
  x_putf B 0 8 tyX1 tyX1_ok nmX1 rfl rfl inlX1 (by decide) hw rfl (zb_nar hv) (by rcases hv with rfl | rfl <;> rfl) (Nat.le_of_ble_eq_true rfl) rfl d hp kk
theorem s_get9 {Γ : Ctx} {cc : ByteArray} {nL k n pc pc' : Nat} {own : String} {R0 : Room} {lv : List (Nat × Value)} {st : List Value} {index : Nat} {a : Nat → Nat} {S : OB} (B : CX Γ cc nL own R0) (hw : Cond.fieldLink own index "DictationBelt$State" "head" "I" ∈ GW) (d : decode cc pc = .ok (.getfield index, 3)) (hp : pc + 3 = pc') (kk : X Γ nL k n pc' lv (.int (S.1 9) :: st) (wS Γ.cs.1 a S)) : X Γ nL k n pc lv (.ref (a 0) :: st) (wS Γ.cs.1 a S) :=
  x_getf B 0 9 rfl rfl inlX1 (by decide) hw rfl d hp kk
theorem s_put9 {Γ : Ctx} {cc : ByteArray} {nL k n pc pc' : Nat} {own : String} {R0 : Room} {lv : List (Nat × Value)} {st : List Value} {index : Nat} {a : Nat → Nat} {S : OB} {v : Int32} (B : CX Γ cc nL own R0) (hw : Cond.fieldLink own index "DictationBelt$State" "head" "I" ∈ GW) (d : decode cc pc = .ok (.putfield index, 3)) (hp : pc + 3 = pc') (kk : X Γ nL k n pc' lv st (wS Γ.cs.1 a (upd S.1 9 v, S.2))) : X Γ nL k n pc lv (.int v :: .ref (a 0) :: st) (wS Γ.cs.1 a S) :=
  x_putf B 0 9 tyX1 tyX1_ok nmX1 rfl rfl inlX1 (by decide) hw rfl rfl rfl (Nat.le_of_ble_eq_true rfl) rfl d hp kk
theorem s_get10 {Γ : Ctx} {cc : ByteArray} {nL k n pc pc' : Nat} {own : String} {R0 : Room} {lv : List (Nat × Value)} {st : List Value} {index : Nat} {a : Nat → Nat} {S : OB} (B : CX Γ cc nL own R0) (hw : Cond.fieldLink own index "DictationBelt$State" "spoken" "I" ∈ GW) (d : decode cc pc = .ok (.getfield index, 3)) (hp : pc + 3 = pc') (kk : X Γ nL k n pc' lv (.int (S.1 10) :: st) (wS Γ.cs.1 a S)) : X Γ nL k n pc lv (.ref (a 0) :: st) (wS Γ.cs.1 a S) :=
  x_getf B 0 10 rfl rfl inlX1 (by decide) hw rfl d hp kk
theorem s_put10 {Γ : Ctx} {cc : ByteArray} {nL k n pc pc' : Nat} {own : String} {R0 : Room} {lv : List (Nat × Value)} {st : List Value} {index : Nat} {a : Nat → Nat} {S : OB} {v : Int32} (B : CX Γ cc nL own R0) (hw : Cond.fieldLink own index "DictationBelt$State" "spoken" "I" ∈ GW) (d : decode cc pc = .ok (.putfield index, 3)) (hp : pc + 3 = pc') (kk : X Γ nL k n pc' lv st (wS Γ.cs.1 a (upd S.1 10 v, S.2))) : X Γ nL k n pc lv (.int v :: .ref (a 0) :: st) (wS Γ.cs.1 a S) :=
  x_putf B 0 10 tyX1 tyX1_ok nmX1 rfl rfl inlX1 (by decide) hw rfl rfl rfl (Nat.le_of_ble_eq_true rfl) rfl d hp kk
theorem s_get11 {Γ : Ctx} {cc : ByteArray} {nL k n pc pc' : Nat} {own : String} {R0 : Room} {lv : List (Nat × Value)} {st : List Value} {index : Nat} {a : Nat → Nat} {S : OB} (B : CX Γ cc nL own R0) (hw : Cond.fieldLink own index "DictationBelt$State" "gone" "I" ∈ GW) (d : decode cc pc = .ok (.getfield index, 3)) (hp : pc + 3 = pc') (kk : X Γ nL k n pc' lv (.int (S.1 11) :: st) (wS Γ.cs.1 a S)) : X Γ nL k n pc lv (.ref (a 0) :: st) (wS Γ.cs.1 a S) :=
  x_getf B 0 11 rfl rfl inlX1 (by decide) hw rfl d hp kk
theorem s_put11 {Γ : Ctx} {cc : ByteArray} {nL k n pc pc' : Nat} {own : String} {R0 : Room} {lv : List (Nat × Value)} {st : List Value} {index : Nat} {a : Nat → Nat} {S : OB} {v : Int32} (B : CX Γ cc nL own R0) (hw : Cond.fieldLink own index "DictationBelt$State" "gone" "I" ∈ GW) (d : decode cc pc = .ok (.putfield index, 3)) (hp : pc + 3 = pc') (kk : X Γ nL k n pc' lv st (wS Γ.cs.1 a (upd S.1 11 v, S.2))) : X Γ nL k n pc lv (.int v :: .ref (a 0) :: st) (wS Γ.cs.1 a S) :=
  x_putf B 0 11 tyX1 tyX1_ok nmX1 rfl rfl inlX1 (by decide) hw rfl rfl rfl (Nat.le_of_ble_eq_true rfl) rfl d hp kk
theorem s_get12 {Γ : Ctx} {cc : ByteArray} {nL k n pc pc' : Nat} {own : String} {R0 : Room} {lv : List (Nat × Value)} {st : List Value} {index : Nat} {a : Nat → Nat} {S : OB} (B : CX Γ cc nL own R0) (hw : Cond.fieldLink own index "DictationBelt$State" "player" "I" ∈ GW) (d : decode cc pc = .ok (.getfield index, 3)) (hp : pc + 3 = pc') (kk : X Γ nL k n pc' lv (.int (S.1 12) :: st) (wS Γ.cs.1 a S)) : X Γ nL k n pc lv (.ref (a 0) :: st) (wS Γ.cs.1 a S) :=
  x_getf B 0 12 rfl rfl inlX1 (by decide) hw rfl d hp kk
theorem s_put12 {Γ : Ctx} {cc : ByteArray} {nL k n pc pc' : Nat} {own : String} {R0 : Room} {lv : List (Nat × Value)} {st : List Value} {index : Nat} {a : Nat → Nat} {S : OB} {v : Int32} (B : CX Γ cc nL own R0) (hw : Cond.fieldLink own index "DictationBelt$State" "player" "I" ∈ GW) (d : decode cc pc = .ok (.putfield index, 3)) (hp : pc + 3 = pc') (kk : X Γ nL k n pc' lv st (wS Γ.cs.1 a (upd S.1 12 v, S.2))) : X Γ nL k n pc lv (.int v :: .ref (a 0) :: st) (wS Γ.cs.1 a S) :=
  x_putf B 0 12 tyX1 tyX1_ok nmX1 rfl rfl inlX1 (by decide) hw rfl rfl rfl (Nat.le_of_ble_eq_true rfl) rfl d hp kk
theorem s_get13 {Γ : Ctx} {cc : ByteArray} {nL k n pc pc' : Nat} {own : String} {R0 : Room} {lv : List (Nat × Value)} {st : List Value} {index : Nat} {a : Nat → Nat} {S : OB} (B : CX Γ cc nL own R0) (hw : Cond.fieldLink own index "DictationBelt$State" "place" "I" ∈ GW) (d : decode cc pc = .ok (.getfield index, 3)) (hp : pc + 3 = pc') (kk : X Γ nL k n pc' lv (.int (S.1 13) :: st) (wS Γ.cs.1 a S)) : X Γ nL k n pc lv (.ref (a 0) :: st) (wS Γ.cs.1 a S) :=
  x_getf B 0 13 rfl rfl inlX1 (by decide) hw rfl d hp kk
theorem s_put13 {Γ : Ctx} {cc : ByteArray} {nL k n pc pc' : Nat} {own : String} {R0 : Room} {lv : List (Nat × Value)} {st : List Value} {index : Nat} {a : Nat → Nat} {S : OB} {v : Int32} (B : CX Γ cc nL own R0) (hw : Cond.fieldLink own index "DictationBelt$State" "place" "I" ∈ GW) (d : decode cc pc = .ok (.putfield index, 3)) (hp : pc + 3 = pc') (kk : X Γ nL k n pc' lv st (wS Γ.cs.1 a (upd S.1 13 v, S.2))) : X Γ nL k n pc lv (.int v :: .ref (a 0) :: st) (wS Γ.cs.1 a S) :=
  x_putf B 0 13 tyX1 tyX1_ok nmX1 rfl rfl inlX1 (by decide) hw rfl rfl rfl (Nat.le_of_ble_eq_true rfl) rfl d hp kk
theorem s_ref0 {Γ : Ctx} {cc : ByteArray} {nL k n pc pc' : Nat} {own : String} {R0 : Room} {lv : List (Nat × Value)} {st : List Value} {index : Nat} {a : Nat → Nat} {S : OB} (B : CX Γ cc nL own R0) (hw : Cond.fieldLink own index "DictationBelt$State" "owners" "[I" ∈ GW) (d : decode cc pc = .ok (.getfield index, 3)) (hp : pc + 3 = pc') (kk : X Γ nL k n pc' lv (.ref (a 1) :: st) (wS Γ.cs.1 a S)) : X Γ nL k n pc lv (.ref (a 0) :: st) (wS Γ.cs.1 a S) :=
  x_getf B 0 0 rfl rfl inlX1 (by decide) hw rfl d hp kk
theorem s_ald0 {Γ : Ctx} {cc : ByteArray} {nL k n pc pc' : Nat} {own : String} {R0 : Room} {lv : List (Nat × Value)} {st : List Value} {index : Nat} {a : Nat → Nat} {S : OB} {i : Int32} (B : CX Γ cc nL own R0) (hi : vp_in i 32) (d : decode cc pc = .ok (.iaload, 1)) (hp : pc + 1 = pc') (kk : X Γ nL k n pc' lv (.int (S.2 0 i.toNatClampNeg) :: st) (wS Γ.cs.1 a S)) : X Γ nL k n pc lv (.int i :: .ref (a 1) :: st) (wS Γ.cs.1 a S) :=
  x_iald B 1 rfl hi d hp kk
theorem s_ast0 {Γ : Ctx} {cc : ByteArray} {nL k n pc pc' : Nat} {own : String} {R0 : Room} {lv : List (Nat × Value)} {st : List Value} {index : Nat} {a : Nat → Nat} {S : OB} {i v : Int32} (B : CX Γ cc nL own R0) (hi : vp_in i 32) (d : decode cc pc = .ok (.iastore, 1)) (hp : pc + 1 = pc') (kk : X Γ nL k n pc' lv st (wS Γ.cs.1 a (S.1, up2 S.2 0 (upd (S.2 0) i.toNatClampNeg v)))) : X Γ nL k n pc lv (.int v :: .int i :: .ref (a 1) :: st) (wS Γ.cs.1 a S) :=
  x_iast B 1 rfl hi rfl d hp kk
theorem s_vAt0 {Γ : Ctx} {cc : ByteArray} {nL k n pc pc' : Nat} {R0 : Room} {lv : List (Nat × Value)} {st : List Value} {index : Nat} {a : Nat → Nat} {S : OB} {i : Int32} (B : CX Γ cc nL RX1 R0) (hR : 1 ≤ R0.frames ∧ 21 ≤ R0.locals) (hroom : k ≤ R0.cells ∧ n ≤ R0.slots) (hsum : (st.map fun v => v.category).sum ≤ 8) (hnw : Cond.methodLinkNest RX1 index yX2_valueAt RX2 ∈ nestW) (d : decode cc pc = .ok (.invokestatic index, 3)) (hp : pc + 3 = pc') (kk : X Γ nL k n pc' lv (.int (vAt 32 (S.2 0) i) :: st) (wS Γ.cs.1 a S)) : X Γ nL k n pc lv (.int i :: .ref (a 1) :: st) (wS Γ.cs.1 a S) :=
  x_GSNi (ws' := wS Γ.cs.1 a S) (wr := (wS Γ.cs.1 a S).eraseIdx 1) B [.ref (a 1), .int i] (c_valueAt _ _ _ 32 (by decide) (a 1) i (S.2 0)) [1] [0, 2, 3, 4, 5, 6] [0, 6, 1, 2, 3, 4, 5] rfl rfl rfl rfl (by decide) rfl rfl hnw gs_valueAt np_valueAt hR hroom rfl hsum d hp kk
theorem s_pAt0 {Γ : Ctx} {cc : ByteArray} {nL k n pc pc' : Nat} {R0 : Room} {lv : List (Nat × Value)} {st : List Value} {index : Nat} {a : Nat → Nat} {S : OB} {i v : Int32} (B : CX Γ cc nL RX1 R0) (hR : 1 ≤ R0.frames ∧ 22 ≤ R0.locals) (hroom : k ≤ R0.cells ∧ n ≤ R0.slots) (hsum : (st.map fun v => v.category).sum ≤ 8) (hnw : Cond.methodLinkNest RX1 index yX2_putAt RX2 ∈ nestW) (d : decode cc pc = .ok (.invokestatic index, 3)) (hp : pc + 3 = pc') (kk : X Γ nL k n pc' lv st (wS Γ.cs.1 a (S.1, up2 S.2 0 (pAt 32 (S.2 0) i v)))) : X Γ nL k n pc lv (.int v :: .int i :: .ref (a 1) :: st) (wS Γ.cs.1 a S) :=
  x_GSNv (ws' := wS Γ.cs.1 a (S.1, up2 S.2 0 (pAt 32 (S.2 0) i v))) (wr := (wS Γ.cs.1 a S).eraseIdx 1) B [.ref (a 1), .int i, .int v] (c_putAt _ _ _ 32 (by decide) (a 1) i v (S.2 0)) [1] [0, 2, 3, 4, 5, 6] [0, 6, 1, 2, 3, 4, 5] rfl rfl rfl rfl (by decide) rfl rfl hnw gs_putAt np_putAt hR hroom rfl hsum d hp kk
theorem s_ref1 {Γ : Ctx} {cc : ByteArray} {nL k n pc pc' : Nat} {own : String} {R0 : Room} {lv : List (Nat × Value)} {st : List Value} {index : Nat} {a : Nat → Nat} {S : OB} (B : CX Γ cc nL own R0) (hw : Cond.fieldLink own index "DictationBelt$State" "sounds" "[I" ∈ GW) (d : decode cc pc = .ok (.getfield index, 3)) (hp : pc + 3 = pc') (kk : X Γ nL k n pc' lv (.ref (a 2) :: st) (wS Γ.cs.1 a S)) : X Γ nL k n pc lv (.ref (a 0) :: st) (wS Γ.cs.1 a S) :=
  x_getf B 0 1 rfl rfl inlX1 (by decide) hw rfl d hp kk
theorem s_ald1 {Γ : Ctx} {cc : ByteArray} {nL k n pc pc' : Nat} {own : String} {R0 : Room} {lv : List (Nat × Value)} {st : List Value} {index : Nat} {a : Nat → Nat} {S : OB} {i : Int32} (B : CX Γ cc nL own R0) (hi : vp_in i 32) (d : decode cc pc = .ok (.iaload, 1)) (hp : pc + 1 = pc') (kk : X Γ nL k n pc' lv (.int (S.2 1 i.toNatClampNeg) :: st) (wS Γ.cs.1 a S)) : X Γ nL k n pc lv (.int i :: .ref (a 2) :: st) (wS Γ.cs.1 a S) :=
  x_iald B 2 rfl hi d hp kk
theorem s_ast1 {Γ : Ctx} {cc : ByteArray} {nL k n pc pc' : Nat} {own : String} {R0 : Room} {lv : List (Nat × Value)} {st : List Value} {index : Nat} {a : Nat → Nat} {S : OB} {i v : Int32} (B : CX Γ cc nL own R0) (hi : vp_in i 32) (d : decode cc pc = .ok (.iastore, 1)) (hp : pc + 1 = pc') (kk : X Γ nL k n pc' lv st (wS Γ.cs.1 a (S.1, up2 S.2 1 (upd (S.2 1) i.toNatClampNeg v)))) : X Γ nL k n pc lv (.int v :: .int i :: .ref (a 2) :: st) (wS Γ.cs.1 a S) :=
  x_iast B 2 rfl hi rfl d hp kk
theorem s_vAt1 {Γ : Ctx} {cc : ByteArray} {nL k n pc pc' : Nat} {R0 : Room} {lv : List (Nat × Value)} {st : List Value} {index : Nat} {a : Nat → Nat} {S : OB} {i : Int32} (B : CX Γ cc nL RX1 R0) (hR : 1 ≤ R0.frames ∧ 21 ≤ R0.locals) (hroom : k ≤ R0.cells ∧ n ≤ R0.slots) (hsum : (st.map fun v => v.category).sum ≤ 8) (hnw : Cond.methodLinkNest RX1 index yX2_valueAt RX2 ∈ nestW) (d : decode cc pc = .ok (.invokestatic index, 3)) (hp : pc + 3 = pc') (kk : X Γ nL k n pc' lv (.int (vAt 32 (S.2 1) i) :: st) (wS Γ.cs.1 a S)) : X Γ nL k n pc lv (.int i :: .ref (a 2) :: st) (wS Γ.cs.1 a S) :=
  x_GSNi (ws' := wS Γ.cs.1 a S) (wr := (wS Γ.cs.1 a S).eraseIdx 2) B [.ref (a 2), .int i] (c_valueAt _ _ _ 32 (by decide) (a 2) i (S.2 1)) [2] [0, 1, 3, 4, 5, 6] [0, 1, 6, 2, 3, 4, 5] rfl rfl rfl rfl (by decide) rfl rfl hnw gs_valueAt np_valueAt hR hroom rfl hsum d hp kk
theorem s_pAt1 {Γ : Ctx} {cc : ByteArray} {nL k n pc pc' : Nat} {R0 : Room} {lv : List (Nat × Value)} {st : List Value} {index : Nat} {a : Nat → Nat} {S : OB} {i v : Int32} (B : CX Γ cc nL RX1 R0) (hR : 1 ≤ R0.frames ∧ 22 ≤ R0.locals) (hroom : k ≤ R0.cells ∧ n ≤ R0.slots) (hsum : (st.map fun v => v.category).sum ≤ 8) (hnw : Cond.methodLinkNest RX1 index yX2_putAt RX2 ∈ nestW) (d : decode cc pc = .ok (.invokestatic index, 3)) (hp : pc + 3 = pc') (kk : X Γ nL k n pc' lv st (wS Γ.cs.1 a (S.1, up2 S.2 1 (pAt 32 (S.2 1) i v)))) : X Γ nL k n pc lv (.int v :: .int i :: .ref (a 2) :: st) (wS Γ.cs.1 a S) :=
  x_GSNv (ws' := wS Γ.cs.1 a (S.1, up2 S.2 1 (pAt 32 (S.2 1) i v))) (wr := (wS Γ.cs.1 a S).eraseIdx 2) B [.ref (a 2), .int i, .int v] (c_putAt _ _ _ 32 (by decide) (a 2) i v (S.2 1)) [2] [0, 1, 3, 4, 5, 6] [0, 1, 6, 2, 3, 4, 5] rfl rfl rfl rfl (by decide) rfl rfl hnw gs_putAt np_putAt hR hroom rfl hsum d hp kk
theorem s_ref2 {Γ : Ctx} {cc : ByteArray} {nL k n pc pc' : Nat} {own : String} {R0 : Room} {lv : List (Nat × Value)} {st : List Value} {index : Nat} {a : Nat → Nat} {S : OB} (B : CX Γ cc nL own R0) (hw : Cond.fieldLink own index "DictationBelt$State" "carbons" "[I" ∈ GW) (d : decode cc pc = .ok (.getfield index, 3)) (hp : pc + 3 = pc') (kk : X Γ nL k n pc' lv (.ref (a 3) :: st) (wS Γ.cs.1 a S)) : X Γ nL k n pc lv (.ref (a 0) :: st) (wS Γ.cs.1 a S) :=
  x_getf B 0 2 rfl rfl inlX1 (by decide) hw rfl d hp kk
theorem s_ald2 {Γ : Ctx} {cc : ByteArray} {nL k n pc pc' : Nat} {own : String} {R0 : Room} {lv : List (Nat × Value)} {st : List Value} {index : Nat} {a : Nat → Nat} {S : OB} {i : Int32} (B : CX Γ cc nL own R0) (hi : vp_in i 32) (d : decode cc pc = .ok (.iaload, 1)) (hp : pc + 1 = pc') (kk : X Γ nL k n pc' lv (.int (S.2 2 i.toNatClampNeg) :: st) (wS Γ.cs.1 a S)) : X Γ nL k n pc lv (.int i :: .ref (a 3) :: st) (wS Γ.cs.1 a S) :=
  x_iald B 3 rfl hi d hp kk
theorem s_ast2 {Γ : Ctx} {cc : ByteArray} {nL k n pc pc' : Nat} {own : String} {R0 : Room} {lv : List (Nat × Value)} {st : List Value} {index : Nat} {a : Nat → Nat} {S : OB} {i v : Int32} (B : CX Γ cc nL own R0) (hi : vp_in i 32) (d : decode cc pc = .ok (.iastore, 1)) (hp : pc + 1 = pc') (kk : X Γ nL k n pc' lv st (wS Γ.cs.1 a (S.1, up2 S.2 2 (upd (S.2 2) i.toNatClampNeg v)))) : X Γ nL k n pc lv (.int v :: .int i :: .ref (a 3) :: st) (wS Γ.cs.1 a S) :=
  x_iast B 3 rfl hi rfl d hp kk
theorem s_vAt2 {Γ : Ctx} {cc : ByteArray} {nL k n pc pc' : Nat} {R0 : Room} {lv : List (Nat × Value)} {st : List Value} {index : Nat} {a : Nat → Nat} {S : OB} {i : Int32} (B : CX Γ cc nL RX1 R0) (hR : 1 ≤ R0.frames ∧ 21 ≤ R0.locals) (hroom : k ≤ R0.cells ∧ n ≤ R0.slots) (hsum : (st.map fun v => v.category).sum ≤ 8) (hnw : Cond.methodLinkNest RX1 index yX2_valueAt RX2 ∈ nestW) (d : decode cc pc = .ok (.invokestatic index, 3)) (hp : pc + 3 = pc') (kk : X Γ nL k n pc' lv (.int (vAt 32 (S.2 2) i) :: st) (wS Γ.cs.1 a S)) : X Γ nL k n pc lv (.int i :: .ref (a 3) :: st) (wS Γ.cs.1 a S) :=
  x_GSNi (ws' := wS Γ.cs.1 a S) (wr := (wS Γ.cs.1 a S).eraseIdx 3) B [.ref (a 3), .int i] (c_valueAt _ _ _ 32 (by decide) (a 3) i (S.2 2)) [3] [0, 1, 2, 4, 5, 6] [0, 1, 2, 6, 3, 4, 5] rfl rfl rfl rfl (by decide) rfl rfl hnw gs_valueAt np_valueAt hR hroom rfl hsum d hp kk
theorem s_pAt2 {Γ : Ctx} {cc : ByteArray} {nL k n pc pc' : Nat} {R0 : Room} {lv : List (Nat × Value)} {st : List Value} {index : Nat} {a : Nat → Nat} {S : OB} {i v : Int32} (B : CX Γ cc nL RX1 R0) (hR : 1 ≤ R0.frames ∧ 22 ≤ R0.locals) (hroom : k ≤ R0.cells ∧ n ≤ R0.slots) (hsum : (st.map fun v => v.category).sum ≤ 8) (hnw : Cond.methodLinkNest RX1 index yX2_putAt RX2 ∈ nestW) (d : decode cc pc = .ok (.invokestatic index, 3)) (hp : pc + 3 = pc') (kk : X Γ nL k n pc' lv st (wS Γ.cs.1 a (S.1, up2 S.2 2 (pAt 32 (S.2 2) i v)))) : X Γ nL k n pc lv (.int v :: .int i :: .ref (a 3) :: st) (wS Γ.cs.1 a S) :=
  x_GSNv (ws' := wS Γ.cs.1 a (S.1, up2 S.2 2 (pAt 32 (S.2 2) i v))) (wr := (wS Γ.cs.1 a S).eraseIdx 3) B [.ref (a 3), .int i, .int v] (c_putAt _ _ _ 32 (by decide) (a 3) i v (S.2 2)) [3] [0, 1, 2, 4, 5, 6] [0, 1, 2, 6, 3, 4, 5] rfl rfl rfl rfl (by decide) rfl rfl hnw gs_putAt np_putAt hR hroom rfl hsum d hp kk
theorem s_ref3 {Γ : Ctx} {cc : ByteArray} {nL k n pc pc' : Nat} {own : String} {R0 : Room} {lv : List (Nat × Value)} {st : List Value} {index : Nat} {a : Nat → Nat} {S : OB} (B : CX Γ cc nL own R0) (hw : Cond.fieldLink own index "DictationBelt$State" "order" "[I" ∈ GW) (d : decode cc pc = .ok (.getfield index, 3)) (hp : pc + 3 = pc') (kk : X Γ nL k n pc' lv (.ref (a 4) :: st) (wS Γ.cs.1 a S)) : X Γ nL k n pc lv (.ref (a 0) :: st) (wS Γ.cs.1 a S) :=
  x_getf B 0 3 rfl rfl inlX1 (by decide) hw rfl d hp kk
theorem s_ald3 {Γ : Ctx} {cc : ByteArray} {nL k n pc pc' : Nat} {own : String} {R0 : Room} {lv : List (Nat × Value)} {st : List Value} {index : Nat} {a : Nat → Nat} {S : OB} {i : Int32} (B : CX Γ cc nL own R0) (hi : vp_in i 32) (d : decode cc pc = .ok (.iaload, 1)) (hp : pc + 1 = pc') (kk : X Γ nL k n pc' lv (.int (S.2 3 i.toNatClampNeg) :: st) (wS Γ.cs.1 a S)) : X Γ nL k n pc lv (.int i :: .ref (a 4) :: st) (wS Γ.cs.1 a S) :=
  x_iald B 4 rfl hi d hp kk
theorem s_ast3 {Γ : Ctx} {cc : ByteArray} {nL k n pc pc' : Nat} {own : String} {R0 : Room} {lv : List (Nat × Value)} {st : List Value} {index : Nat} {a : Nat → Nat} {S : OB} {i v : Int32} (B : CX Γ cc nL own R0) (hi : vp_in i 32) (d : decode cc pc = .ok (.iastore, 1)) (hp : pc + 1 = pc') (kk : X Γ nL k n pc' lv st (wS Γ.cs.1 a (S.1, up2 S.2 3 (upd (S.2 3) i.toNatClampNeg v)))) : X Γ nL k n pc lv (.int v :: .int i :: .ref (a 4) :: st) (wS Γ.cs.1 a S) :=
  x_iast B 4 rfl hi rfl d hp kk
theorem s_vAt3 {Γ : Ctx} {cc : ByteArray} {nL k n pc pc' : Nat} {R0 : Room} {lv : List (Nat × Value)} {st : List Value} {index : Nat} {a : Nat → Nat} {S : OB} {i : Int32} (B : CX Γ cc nL RX1 R0) (hR : 1 ≤ R0.frames ∧ 21 ≤ R0.locals) (hroom : k ≤ R0.cells ∧ n ≤ R0.slots) (hsum : (st.map fun v => v.category).sum ≤ 8) (hnw : Cond.methodLinkNest RX1 index yX2_valueAt RX2 ∈ nestW) (d : decode cc pc = .ok (.invokestatic index, 3)) (hp : pc + 3 = pc') (kk : X Γ nL k n pc' lv (.int (vAt 32 (S.2 3) i) :: st) (wS Γ.cs.1 a S)) : X Γ nL k n pc lv (.int i :: .ref (a 4) :: st) (wS Γ.cs.1 a S) :=
  x_GSNi (ws' := wS Γ.cs.1 a S) (wr := (wS Γ.cs.1 a S).eraseIdx 4) B [.ref (a 4), .int i] (c_valueAt _ _ _ 32 (by decide) (a 4) i (S.2 3)) [4] [0, 1, 2, 3, 5, 6] [0, 1, 2, 3, 6, 4, 5] rfl rfl rfl rfl (by decide) rfl rfl hnw gs_valueAt np_valueAt hR hroom rfl hsum d hp kk
theorem s_pAt3 {Γ : Ctx} {cc : ByteArray} {nL k n pc pc' : Nat} {R0 : Room} {lv : List (Nat × Value)} {st : List Value} {index : Nat} {a : Nat → Nat} {S : OB} {i v : Int32} (B : CX Γ cc nL RX1 R0) (hR : 1 ≤ R0.frames ∧ 22 ≤ R0.locals) (hroom : k ≤ R0.cells ∧ n ≤ R0.slots) (hsum : (st.map fun v => v.category).sum ≤ 8) (hnw : Cond.methodLinkNest RX1 index yX2_putAt RX2 ∈ nestW) (d : decode cc pc = .ok (.invokestatic index, 3)) (hp : pc + 3 = pc') (kk : X Γ nL k n pc' lv st (wS Γ.cs.1 a (S.1, up2 S.2 3 (pAt 32 (S.2 3) i v)))) : X Γ nL k n pc lv (.int v :: .int i :: .ref (a 4) :: st) (wS Γ.cs.1 a S) :=
  x_GSNv (ws' := wS Γ.cs.1 a (S.1, up2 S.2 3 (pAt 32 (S.2 3) i v))) (wr := (wS Γ.cs.1 a S).eraseIdx 4) B [.ref (a 4), .int i, .int v] (c_putAt _ _ _ 32 (by decide) (a 4) i v (S.2 3)) [4] [0, 1, 2, 3, 5, 6] [0, 1, 2, 3, 6, 4, 5] rfl rfl rfl rfl (by decide) rfl rfl hnw gs_putAt np_putAt hR hroom rfl hsum d hp kk
theorem s_ref5 {Γ : Ctx} {cc : ByteArray} {nL k n pc pc' : Nat} {own : String} {R0 : Room} {lv : List (Nat × Value)} {st : List Value} {index : Nat} {a : Nat → Nat} {S : OB} (B : CX Γ cc nL own R0) (hw : Cond.fieldLink own index "DictationBelt$State" "flags" "[I" ∈ GW) (d : decode cc pc = .ok (.getfield index, 3)) (hp : pc + 3 = pc') (kk : X Γ nL k n pc' lv (.ref (a 5) :: st) (wS Γ.cs.1 a S)) : X Γ nL k n pc lv (.ref (a 0) :: st) (wS Γ.cs.1 a S) :=
  x_getf B 0 5 rfl rfl inlX1 (by decide) hw rfl d hp kk
theorem s_ald5 {Γ : Ctx} {cc : ByteArray} {nL k n pc pc' : Nat} {own : String} {R0 : Room} {lv : List (Nat × Value)} {st : List Value} {index : Nat} {a : Nat → Nat} {S : OB} {i : Int32} (B : CX Γ cc nL own R0) (hi : vp_in i 10) (d : decode cc pc = .ok (.iaload, 1)) (hp : pc + 1 = pc') (kk : X Γ nL k n pc' lv (.int (S.2 5 i.toNatClampNeg) :: st) (wS Γ.cs.1 a S)) : X Γ nL k n pc lv (.int i :: .ref (a 5) :: st) (wS Γ.cs.1 a S) :=
  x_iald B 5 rfl hi d hp kk
theorem s_ast5 {Γ : Ctx} {cc : ByteArray} {nL k n pc pc' : Nat} {own : String} {R0 : Room} {lv : List (Nat × Value)} {st : List Value} {index : Nat} {a : Nat → Nat} {S : OB} {i v : Int32} (B : CX Γ cc nL own R0) (hi : vp_in i 10) (d : decode cc pc = .ok (.iastore, 1)) (hp : pc + 1 = pc') (kk : X Γ nL k n pc' lv st (wS Γ.cs.1 a (S.1, up2 S.2 5 (upd (S.2 5) i.toNatClampNeg v)))) : X Γ nL k n pc lv (.int v :: .int i :: .ref (a 5) :: st) (wS Γ.cs.1 a S) :=
  x_iast B 5 rfl hi rfl d hp kk
theorem s_vAt5 {Γ : Ctx} {cc : ByteArray} {nL k n pc pc' : Nat} {R0 : Room} {lv : List (Nat × Value)} {st : List Value} {index : Nat} {a : Nat → Nat} {S : OB} {i : Int32} (B : CX Γ cc nL RX1 R0) (hR : 1 ≤ R0.frames ∧ 21 ≤ R0.locals) (hroom : k ≤ R0.cells ∧ n ≤ R0.slots) (hsum : (st.map fun v => v.category).sum ≤ 8) (hnw : Cond.methodLinkNest RX1 index yX2_valueAt RX2 ∈ nestW) (d : decode cc pc = .ok (.invokestatic index, 3)) (hp : pc + 3 = pc') (kk : X Γ nL k n pc' lv (.int (vAt 10 (S.2 5) i) :: st) (wS Γ.cs.1 a S)) : X Γ nL k n pc lv (.int i :: .ref (a 5) :: st) (wS Γ.cs.1 a S) :=
  x_GSNi (ws' := wS Γ.cs.1 a S) (wr := (wS Γ.cs.1 a S).eraseIdx 5) B [.ref (a 5), .int i] (c_valueAt _ _ _ 10 (by decide) (a 5) i (S.2 5)) [5] [0, 1, 2, 3, 4, 6] [0, 1, 2, 3, 4, 6, 5] rfl rfl rfl rfl (by decide) rfl rfl hnw gs_valueAt np_valueAt hR hroom rfl hsum d hp kk
theorem s_pAt5 {Γ : Ctx} {cc : ByteArray} {nL k n pc pc' : Nat} {R0 : Room} {lv : List (Nat × Value)} {st : List Value} {index : Nat} {a : Nat → Nat} {S : OB} {i v : Int32} (B : CX Γ cc nL RX1 R0) (hR : 1 ≤ R0.frames ∧ 22 ≤ R0.locals) (hroom : k ≤ R0.cells ∧ n ≤ R0.slots) (hsum : (st.map fun v => v.category).sum ≤ 8) (hnw : Cond.methodLinkNest RX1 index yX2_putAt RX2 ∈ nestW) (d : decode cc pc = .ok (.invokestatic index, 3)) (hp : pc + 3 = pc') (kk : X Γ nL k n pc' lv st (wS Γ.cs.1 a (S.1, up2 S.2 5 (pAt 10 (S.2 5) i v)))) : X Γ nL k n pc lv (.int v :: .int i :: .ref (a 5) :: st) (wS Γ.cs.1 a S) :=
  x_GSNv (ws' := wS Γ.cs.1 a (S.1, up2 S.2 5 (pAt 10 (S.2 5) i v))) (wr := (wS Γ.cs.1 a S).eraseIdx 5) B [.ref (a 5), .int i, .int v] (c_putAt _ _ _ 10 (by decide) (a 5) i v (S.2 5)) [5] [0, 1, 2, 3, 4, 6] [0, 1, 2, 3, 4, 6, 5] rfl rfl rfl rfl (by decide) rfl rfl hnw gs_putAt np_putAt hR hroom rfl hsum d hp kk
theorem s_ref6 {Γ : Ctx} {cc : ByteArray} {nL k n pc pc' : Nat} {own : String} {R0 : Room} {lv : List (Nat × Value)} {st : List Value} {index : Nat} {a : Nat → Nat} {S : OB} (B : CX Γ cc nL own R0) (hw : Cond.fieldLink own index "DictationBelt$State" "losses" "[I" ∈ GW) (d : decode cc pc = .ok (.getfield index, 3)) (hp : pc + 3 = pc') (kk : X Γ nL k n pc' lv (.ref (a 6) :: st) (wS Γ.cs.1 a S)) : X Γ nL k n pc lv (.ref (a 0) :: st) (wS Γ.cs.1 a S) :=
  x_getf B 0 6 rfl rfl inlX1 (by decide) hw rfl d hp kk
theorem s_ald6 {Γ : Ctx} {cc : ByteArray} {nL k n pc pc' : Nat} {own : String} {R0 : Room} {lv : List (Nat × Value)} {st : List Value} {index : Nat} {a : Nat → Nat} {S : OB} {i : Int32} (B : CX Γ cc nL own R0) (hi : vp_in i 10) (d : decode cc pc = .ok (.iaload, 1)) (hp : pc + 1 = pc') (kk : X Γ nL k n pc' lv (.int (S.2 6 i.toNatClampNeg) :: st) (wS Γ.cs.1 a S)) : X Γ nL k n pc lv (.int i :: .ref (a 6) :: st) (wS Γ.cs.1 a S) :=
  x_iald B 6 rfl hi d hp kk
theorem s_ast6 {Γ : Ctx} {cc : ByteArray} {nL k n pc pc' : Nat} {own : String} {R0 : Room} {lv : List (Nat × Value)} {st : List Value} {index : Nat} {a : Nat → Nat} {S : OB} {i v : Int32} (B : CX Γ cc nL own R0) (hi : vp_in i 10) (d : decode cc pc = .ok (.iastore, 1)) (hp : pc + 1 = pc') (kk : X Γ nL k n pc' lv st (wS Γ.cs.1 a (S.1, up2 S.2 6 (upd (S.2 6) i.toNatClampNeg v)))) : X Γ nL k n pc lv (.int v :: .int i :: .ref (a 6) :: st) (wS Γ.cs.1 a S) :=
  x_iast B 6 rfl hi rfl d hp kk
theorem s_vAt6 {Γ : Ctx} {cc : ByteArray} {nL k n pc pc' : Nat} {R0 : Room} {lv : List (Nat × Value)} {st : List Value} {index : Nat} {a : Nat → Nat} {S : OB} {i : Int32} (B : CX Γ cc nL RX1 R0) (hR : 1 ≤ R0.frames ∧ 21 ≤ R0.locals) (hroom : k ≤ R0.cells ∧ n ≤ R0.slots) (hsum : (st.map fun v => v.category).sum ≤ 8) (hnw : Cond.methodLinkNest RX1 index yX2_valueAt RX2 ∈ nestW) (d : decode cc pc = .ok (.invokestatic index, 3)) (hp : pc + 3 = pc') (kk : X Γ nL k n pc' lv (.int (vAt 10 (S.2 6) i) :: st) (wS Γ.cs.1 a S)) : X Γ nL k n pc lv (.int i :: .ref (a 6) :: st) (wS Γ.cs.1 a S) :=
  x_GSNi (ws' := wS Γ.cs.1 a S) (wr := (wS Γ.cs.1 a S).eraseIdx 6) B [.ref (a 6), .int i] (c_valueAt _ _ _ 10 (by decide) (a 6) i (S.2 6)) [6] [0, 1, 2, 3, 4, 5] [0, 1, 2, 3, 4, 5, 6] rfl rfl rfl rfl (by decide) rfl rfl hnw gs_valueAt np_valueAt hR hroom rfl hsum d hp kk
theorem s_pAt6 {Γ : Ctx} {cc : ByteArray} {nL k n pc pc' : Nat} {R0 : Room} {lv : List (Nat × Value)} {st : List Value} {index : Nat} {a : Nat → Nat} {S : OB} {i v : Int32} (B : CX Γ cc nL RX1 R0) (hR : 1 ≤ R0.frames ∧ 22 ≤ R0.locals) (hroom : k ≤ R0.cells ∧ n ≤ R0.slots) (hsum : (st.map fun v => v.category).sum ≤ 8) (hnw : Cond.methodLinkNest RX1 index yX2_putAt RX2 ∈ nestW) (d : decode cc pc = .ok (.invokestatic index, 3)) (hp : pc + 3 = pc') (kk : X Γ nL k n pc' lv st (wS Γ.cs.1 a (S.1, up2 S.2 6 (pAt 10 (S.2 6) i v)))) : X Γ nL k n pc lv (.int v :: .int i :: .ref (a 6) :: st) (wS Γ.cs.1 a S) :=
  x_GSNv (ws' := wS Γ.cs.1 a (S.1, up2 S.2 6 (pAt 10 (S.2 6) i v))) (wr := (wS Γ.cs.1 a S).eraseIdx 6) B [.ref (a 6), .int i, .int v] (c_putAt _ _ _ 10 (by decide) (a 6) i v (S.2 6)) [6] [0, 1, 2, 3, 4, 5] [0, 1, 2, 3, 4, 5, 6] rfl rfl rfl rfl (by decide) rfl rfl hnw gs_putAt np_putAt hR hroom rfl hsum d hp kk
theorem t_get1 {Γ : Ctx} {cc : ByteArray} {nL k n pc pc' : Nat} {own : String} {R0 : Room} {lv : List (Nat × Value)} {st : List Value} {index : Nat} {a : Nat → Nat} {S : OB} (B : CX Γ cc nL own R0) (hw : Cond.fieldLink own index "DictationBelt$OrderText" "length" "I" ∈ GW) (d : decode cc pc = .ok (.getfield index, 3)) (hp : pc + 3 = pc') (kk : X Γ nL k n pc' lv (.int (S.1 1) :: st) (wT Γ.cs.1 a S)) : X Γ nL k n pc lv (.ref (a 0) :: st) (wT Γ.cs.1 a S) :=
  x_getf B 0 1 rfl rfl inlX0 (by decide) hw rfl d hp kk
theorem t_put1 {Γ : Ctx} {cc : ByteArray} {nL k n pc pc' : Nat} {own : String} {R0 : Room} {lv : List (Nat × Value)} {st : List Value} {index : Nat} {a : Nat → Nat} {S : OB} {v : Int32} (B : CX Γ cc nL own R0) (hw : Cond.fieldLink own index "DictationBelt$OrderText" "length" "I" ∈ GW) (d : decode cc pc = .ok (.putfield index, 3)) (hp : pc + 3 = pc') (kk : X Γ nL k n pc' lv st (wT Γ.cs.1 a (upd S.1 1 v, S.2))) : X Γ nL k n pc lv (.int v :: .ref (a 0) :: st) (wT Γ.cs.1 a S) :=
  x_putf B 0 1 tyX0 tyX0_ok nmX0 rfl rfl inlX0 (by decide) hw rfl rfl rfl (Nat.le_of_ble_eq_true rfl) rfl d hp kk
theorem t_ref0 {Γ : Ctx} {cc : ByteArray} {nL k n pc pc' : Nat} {own : String} {R0 : Room} {lv : List (Nat × Value)} {st : List Value} {index : Nat} {a : Nat → Nat} {S : OB} (B : CX Γ cc nL own R0) (hw : Cond.fieldLink own index "DictationBelt$OrderText" "codes" "[I" ∈ GW) (d : decode cc pc = .ok (.getfield index, 3)) (hp : pc + 3 = pc') (kk : X Γ nL k n pc' lv (.ref (a 1) :: st) (wT Γ.cs.1 a S)) : X Γ nL k n pc lv (.ref (a 0) :: st) (wT Γ.cs.1 a S) :=
  x_getf B 0 0 rfl rfl inlX0 (by decide) hw rfl d hp kk
theorem t_ald0 {Γ : Ctx} {cc : ByteArray} {nL k n pc pc' : Nat} {own : String} {R0 : Room} {lv : List (Nat × Value)} {st : List Value} {index : Nat} {a : Nat → Nat} {S : OB} {i : Int32} (B : CX Γ cc nL own R0) (hi : vp_in i 60) (d : decode cc pc = .ok (.iaload, 1)) (hp : pc + 1 = pc') (kk : X Γ nL k n pc' lv (.int (S.2 0 i.toNatClampNeg) :: st) (wT Γ.cs.1 a S)) : X Γ nL k n pc lv (.int i :: .ref (a 1) :: st) (wT Γ.cs.1 a S) :=
  x_iald B 1 rfl hi d hp kk
theorem t_ast0 {Γ : Ctx} {cc : ByteArray} {nL k n pc pc' : Nat} {own : String} {R0 : Room} {lv : List (Nat × Value)} {st : List Value} {index : Nat} {a : Nat → Nat} {S : OB} {i v : Int32} (B : CX Γ cc nL own R0) (hi : vp_in i 60) (d : decode cc pc = .ok (.iastore, 1)) (hp : pc + 1 = pc') (kk : X Γ nL k n pc' lv st (wT Γ.cs.1 a (S.1, up2 S.2 0 (upd (S.2 0) i.toNatClampNeg v)))) : X Γ nL k n pc lv (.int v :: .int i :: .ref (a 1) :: st) (wT Γ.cs.1 a S) :=
  x_iast B 1 rfl hi rfl d hp kk
theorem t_vAt0 {Γ : Ctx} {cc : ByteArray} {nL k n pc pc' : Nat} {R0 : Room} {lv : List (Nat × Value)} {st : List Value} {index : Nat} {a : Nat → Nat} {S : OB} {i : Int32} (B : CX Γ cc nL RX0 R0) (hR : 1 ≤ R0.frames ∧ 21 ≤ R0.locals) (hroom : k ≤ R0.cells ∧ n ≤ R0.slots) (hsum : (st.map fun v => v.category).sum ≤ 8) (hnw : Cond.methodLinkNest RX0 index yX2_valueAt RX2 ∈ nestW) (d : decode cc pc = .ok (.invokestatic index, 3)) (hp : pc + 3 = pc') (kk : X Γ nL k n pc' lv (.int (vAt 60 (S.2 0) i) :: st) (wT Γ.cs.1 a S)) : X Γ nL k n pc lv (.int i :: .ref (a 1) :: st) (wT Γ.cs.1 a S) :=
  x_GSNi (ws' := wT Γ.cs.1 a S) (wr := (wT Γ.cs.1 a S).eraseIdx 1) B [.ref (a 1), .int i] (c_valueAt _ _ _ 60 (by decide) (a 1) i (S.2 0)) [1] [0] [0, 1] rfl rfl rfl rfl (by decide) rfl rfl hnw gs_valueAt np_valueAt hR hroom rfl hsum d hp kk
theorem t_pAt0 {Γ : Ctx} {cc : ByteArray} {nL k n pc pc' : Nat} {R0 : Room} {lv : List (Nat × Value)} {st : List Value} {index : Nat} {a : Nat → Nat} {S : OB} {i v : Int32} (B : CX Γ cc nL RX0 R0) (hR : 1 ≤ R0.frames ∧ 22 ≤ R0.locals) (hroom : k ≤ R0.cells ∧ n ≤ R0.slots) (hsum : (st.map fun v => v.category).sum ≤ 8) (hnw : Cond.methodLinkNest RX0 index yX2_putAt RX2 ∈ nestW) (d : decode cc pc = .ok (.invokestatic index, 3)) (hp : pc + 3 = pc') (kk : X Γ nL k n pc' lv st (wT Γ.cs.1 a (S.1, up2 S.2 0 (pAt 60 (S.2 0) i v)))) : X Γ nL k n pc lv (.int v :: .int i :: .ref (a 1) :: st) (wT Γ.cs.1 a S) :=
  x_GSNv (ws' := wT Γ.cs.1 a (S.1, up2 S.2 0 (pAt 60 (S.2 0) i v))) (wr := (wT Γ.cs.1 a S).eraseIdx 1) B [.ref (a 1), .int i, .int v] (c_putAt _ _ _ 60 (by decide) (a 1) i v (S.2 0)) [1] [0] [0, 1] rfl rfl rfl rfl (by decide) rfl rfl hnw gs_putAt np_putAt hR hroom rfl hsum d hp kk
theorem m_get0 {Γ : Ctx} {cc : ByteArray} {nL k n pc pc' : Nat} {own : String} {R0 : Room} {lv : List (Nat × Value)} {st : List Value} {index : Nat} {a : Nat → Nat} {S : MO} (B : CX Γ cc nL own R0) (hw : Cond.fieldLink own index "DictationBeltModel" "thrown" "I" ∈ GW) (d : decode cc pc = .ok (.getfield index, 3)) (hp : pc + 3 = pc') (kk : X Γ nL k n pc' lv (.int (S.1 0) :: st) (wM Γ.cs.1 a S)) : X Γ nL k n pc lv (.ref (a 0) :: st) (wM Γ.cs.1 a S) :=
  x_getf B 0 0 rfl rfl inlX3 (by decide) hw rfl d hp kk
theorem m_put0 {Γ : Ctx} {cc : ByteArray} {nL k n pc pc' : Nat} {own : String} {R0 : Room} {lv : List (Nat × Value)} {st : List Value} {index : Nat} {a : Nat → Nat} {S : MO} {v : Int32} (B : CX Γ cc nL own R0) (hw : Cond.fieldLink own index "DictationBeltModel" "thrown" "I" ∈ GW) (d : decode cc pc = .ok (.putfield index, 3)) (hp : pc + 3 = pc') (kk : X Γ nL k n pc' lv st (wM Γ.cs.1 a (upd S.1 0 v, S.2))) : X Γ nL k n pc lv (.int v :: .ref (a 0) :: st) (wM Γ.cs.1 a S) :=
  x_putf B 0 0 tyX3 tyX3_ok nmX3 rfl rfl inlX3 (by decide) hw rfl rfl rfl (Nat.le_of_ble_eq_true rfl) rfl d hp kk
theorem m_get2 {Γ : Ctx} {cc : ByteArray} {nL k n pc pc' : Nat} {own : String} {R0 : Room} {lv : List (Nat × Value)} {st : List Value} {index : Nat} {a : Nat → Nat} {S : MO} (B : CX Γ cc nL own R0) (hw : Cond.fieldLink own index "DictationBeltModel" "saved" "I" ∈ GW) (d : decode cc pc = .ok (.getfield index, 3)) (hp : pc + 3 = pc') (kk : X Γ nL k n pc' lv (.int (S.1 2) :: st) (wM Γ.cs.1 a S)) : X Γ nL k n pc lv (.ref (a 0) :: st) (wM Γ.cs.1 a S) :=
  x_getf B 0 2 rfl rfl inlX3 (by decide) hw rfl d hp kk
theorem m_put2 {Γ : Ctx} {cc : ByteArray} {nL k n pc pc' : Nat} {own : String} {R0 : Room} {lv : List (Nat × Value)} {st : List Value} {index : Nat} {a : Nat → Nat} {S : MO} {v : Int32} (B : CX Γ cc nL own R0) (hw : Cond.fieldLink own index "DictationBeltModel" "saved" "I" ∈ GW) (d : decode cc pc = .ok (.putfield index, 3)) (hp : pc + 3 = pc') (kk : X Γ nL k n pc' lv st (wM Γ.cs.1 a (upd S.1 2 v, S.2))) : X Γ nL k n pc lv (.int v :: .ref (a 0) :: st) (wM Γ.cs.1 a S) :=
  x_putf B 0 2 tyX3 tyX3_ok nmX3 rfl rfl inlX3 (by decide) hw rfl rfl rfl (Nat.le_of_ble_eq_true rfl) rfl d hp kk
theorem m_get4 {Γ : Ctx} {cc : ByteArray} {nL k n pc pc' : Nat} {own : String} {R0 : Room} {lv : List (Nat × Value)} {st : List Value} {index : Nat} {a : Nat → Nat} {S : MO} (B : CX Γ cc nL own R0) (hw : Cond.fieldLink own index "DictationBeltModel" "length" "I" ∈ GW) (d : decode cc pc = .ok (.getfield index, 3)) (hp : pc + 3 = pc') (kk : X Γ nL k n pc' lv (.int (S.1 4) :: st) (wM Γ.cs.1 a S)) : X Γ nL k n pc lv (.ref (a 0) :: st) (wM Γ.cs.1 a S) :=
  x_getf B 0 4 rfl rfl inlX3 (by decide) hw rfl d hp kk
theorem m_put4 {Γ : Ctx} {cc : ByteArray} {nL k n pc pc' : Nat} {own : String} {R0 : Room} {lv : List (Nat × Value)} {st : List Value} {index : Nat} {a : Nat → Nat} {S : MO} {v : Int32} (B : CX Γ cc nL own R0) (hw : Cond.fieldLink own index "DictationBeltModel" "length" "I" ∈ GW) (d : decode cc pc = .ok (.putfield index, 3)) (hp : pc + 3 = pc') (kk : X Γ nL k n pc' lv st (wM Γ.cs.1 a (upd S.1 4 v, S.2))) : X Γ nL k n pc lv (.int v :: .ref (a 0) :: st) (wM Γ.cs.1 a S) :=
  x_putf B 0 4 tyX3 tyX3_ok nmX3 rfl rfl inlX3 (by decide) hw rfl rfl rfl (Nat.le_of_ble_eq_true rfl) rfl d hp kk
theorem m_get5 {Γ : Ctx} {cc : ByteArray} {nL k n pc pc' : Nat} {own : String} {R0 : Room} {lv : List (Nat × Value)} {st : List Value} {index : Nat} {a : Nat → Nat} {S : MO} (B : CX Γ cc nL own R0) (hw : Cond.fieldLink own index "DictationBeltModel" "at" "I" ∈ GW) (d : decode cc pc = .ok (.getfield index, 3)) (hp : pc + 3 = pc') (kk : X Γ nL k n pc' lv (.int (S.1 5) :: st) (wM Γ.cs.1 a S)) : X Γ nL k n pc lv (.ref (a 0) :: st) (wM Γ.cs.1 a S) :=
  x_getf B 0 5 rfl rfl inlX3 (by decide) hw rfl d hp kk
theorem m_put5 {Γ : Ctx} {cc : ByteArray} {nL k n pc pc' : Nat} {own : String} {R0 : Room} {lv : List (Nat × Value)} {st : List Value} {index : Nat} {a : Nat → Nat} {S : MO} {v : Int32} (B : CX Γ cc nL own R0) (hw : Cond.fieldLink own index "DictationBeltModel" "at" "I" ∈ GW) (d : decode cc pc = .ok (.putfield index, 3)) (hp : pc + 3 = pc') (kk : X Γ nL k n pc' lv st (wM Γ.cs.1 a (upd S.1 5 v, S.2))) : X Γ nL k n pc lv (.int v :: .ref (a 0) :: st) (wM Γ.cs.1 a S) :=
  x_putf B 0 5 tyX3 tyX3_ok nmX3 rfl rfl inlX3 (by decide) hw rfl rfl rfl (Nat.le_of_ble_eq_true rfl) rfl d hp kk
theorem m_get6 {Γ : Ctx} {cc : ByteArray} {nL k n pc pc' : Nat} {own : String} {R0 : Room} {lv : List (Nat × Value)} {st : List Value} {index : Nat} {a : Nat → Nat} {S : MO} (B : CX Γ cc nL own R0) (hw : Cond.fieldLink own index "DictationBeltModel" "letter" "I" ∈ GW) (d : decode cc pc = .ok (.getfield index, 3)) (hp : pc + 3 = pc') (kk : X Γ nL k n pc' lv (.int (S.1 6) :: st) (wM Γ.cs.1 a S)) : X Γ nL k n pc lv (.ref (a 0) :: st) (wM Γ.cs.1 a S) :=
  x_getf B 0 6 rfl rfl inlX3 (by decide) hw rfl d hp kk
theorem m_put6 {Γ : Ctx} {cc : ByteArray} {nL k n pc pc' : Nat} {own : String} {R0 : Room} {lv : List (Nat × Value)} {st : List Value} {index : Nat} {a : Nat → Nat} {S : MO} {v : Int32} (B : CX Γ cc nL own R0) (hw : Cond.fieldLink own index "DictationBeltModel" "letter" "I" ∈ GW) (d : decode cc pc = .ok (.putfield index, 3)) (hp : pc + 3 = pc') (kk : X Γ nL k n pc' lv st (wM Γ.cs.1 a (upd S.1 6 v, S.2))) : X Γ nL k n pc lv (.int v :: .ref (a 0) :: st) (wM Γ.cs.1 a S) :=
  x_putf B 0 6 tyX3 tyX3_ok nmX3 rfl rfl inlX3 (by decide) hw rfl rfl rfl (Nat.le_of_ble_eq_true rfl) rfl d hp kk
theorem m_get7 {Γ : Ctx} {cc : ByteArray} {nL k n pc pc' : Nat} {own : String} {R0 : Room} {lv : List (Nat × Value)} {st : List Value} {index : Nat} {a : Nat → Nat} {S : MO} (B : CX Γ cc nL own R0) (hw : Cond.fieldLink own index "DictationBeltModel" "first" "I" ∈ GW) (d : decode cc pc = .ok (.getfield index, 3)) (hp : pc + 3 = pc') (kk : X Γ nL k n pc' lv (.int (S.1 7) :: st) (wM Γ.cs.1 a S)) : X Γ nL k n pc lv (.ref (a 0) :: st) (wM Γ.cs.1 a S) :=
  x_getf B 0 7 rfl rfl inlX3 (by decide) hw rfl d hp kk
theorem m_put7 {Γ : Ctx} {cc : ByteArray} {nL k n pc pc' : Nat} {own : String} {R0 : Room} {lv : List (Nat × Value)} {st : List Value} {index : Nat} {a : Nat → Nat} {S : MO} {v : Int32} (B : CX Γ cc nL own R0) (hw : Cond.fieldLink own index "DictationBeltModel" "first" "I" ∈ GW) (d : decode cc pc = .ok (.putfield index, 3)) (hp : pc + 3 = pc') (kk : X Γ nL k n pc' lv st (wM Γ.cs.1 a (upd S.1 7 v, S.2))) : X Γ nL k n pc lv (.int v :: .ref (a 0) :: st) (wM Γ.cs.1 a S) :=
  x_putf B 0 7 tyX3 tyX3_ok nmX3 rfl rfl inlX3 (by decide) hw rfl rfl rfl (Nat.le_of_ble_eq_true rfl) rfl d hp kk
theorem m_get8 {Γ : Ctx} {cc : ByteArray} {nL k n pc pc' : Nat} {own : String} {R0 : Room} {lv : List (Nat × Value)} {st : List Value} {index : Nat} {a : Nat → Nat} {S : MO} (B : CX Γ cc nL own R0) (hw : Cond.fieldLink own index "DictationBeltModel" "second" "I" ∈ GW) (d : decode cc pc = .ok (.getfield index, 3)) (hp : pc + 3 = pc') (kk : X Γ nL k n pc' lv (.int (S.1 8) :: st) (wM Γ.cs.1 a S)) : X Γ nL k n pc lv (.ref (a 0) :: st) (wM Γ.cs.1 a S) :=
  x_getf B 0 8 rfl rfl inlX3 (by decide) hw rfl d hp kk
theorem m_put8 {Γ : Ctx} {cc : ByteArray} {nL k n pc pc' : Nat} {own : String} {R0 : Room} {lv : List (Nat × Value)} {st : List Value} {index : Nat} {a : Nat → Nat} {S : MO} {v : Int32} (B : CX Γ cc nL own R0) (hw : Cond.fieldLink own index "DictationBeltModel" "second" "I" ∈ GW) (d : decode cc pc = .ok (.putfield index, 3)) (hp : pc + 3 = pc') (kk : X Γ nL k n pc' lv st (wM Γ.cs.1 a (upd S.1 8 v, S.2))) : X Γ nL k n pc lv (.int v :: .ref (a 0) :: st) (wM Γ.cs.1 a S) :=
  x_putf B 0 8 tyX3 tyX3_ok nmX3 rfl rfl inlX3 (by decide) hw rfl rfl rfl (Nat.le_of_ble_eq_true rfl) rfl d hp kk
theorem m_ref1 {Γ : Ctx} {cc : ByteArray} {nL k n pc pc' : Nat} {own : String} {R0 : Room} {lv : List (Nat × Value)} {st : List Value} {index : Nat} {a : Nat → Nat} {S : MO} (B : CX Γ cc nL own R0) (hw : Cond.fieldLink own index "DictationBeltModel" "s" "[I" ∈ GW) (d : decode cc pc = .ok (.getfield index, 3)) (hp : pc + 3 = pc') (kk : X Γ nL k n pc' lv (.ref (a 1) :: st) (wM Γ.cs.1 a S)) : X Γ nL k n pc lv (.ref (a 0) :: st) (wM Γ.cs.1 a S) :=
  x_getf B 0 1 rfl rfl inlX3 (by decide) hw rfl d hp kk
theorem m_ald1 {Γ : Ctx} {cc : ByteArray} {nL k n pc pc' : Nat} {own : String} {R0 : Room} {lv : List (Nat × Value)} {st : List Value} {index : Nat} {a : Nat → Nat} {S : MO} {i : Int32} (B : CX Γ cc nL own R0) (hi : vp_in i 1085) (d : decode cc pc = .ok (.iaload, 1)) (hp : pc + 1 = pc') (kk : X Γ nL k n pc' lv (.int (S.2.1 1 i.toNatClampNeg) :: st) (wM Γ.cs.1 a S)) : X Γ nL k n pc lv (.int i :: .ref (a 1) :: st) (wM Γ.cs.1 a S) :=
  x_iald B 1 rfl hi d hp kk
theorem m_ast1 {Γ : Ctx} {cc : ByteArray} {nL k n pc pc' : Nat} {own : String} {R0 : Room} {lv : List (Nat × Value)} {st : List Value} {index : Nat} {a : Nat → Nat} {S : MO} {i v : Int32} (B : CX Γ cc nL own R0) (hi : vp_in i 1085) (d : decode cc pc = .ok (.iastore, 1)) (hp : pc + 1 = pc') (kk : X Γ nL k n pc' lv st (wM Γ.cs.1 a (S.1, up2 S.2.1 1 (upd (S.2.1 1) i.toNatClampNeg v), S.2.2))) : X Γ nL k n pc lv (.int v :: .int i :: .ref (a 1) :: st) (wM Γ.cs.1 a S) :=
  x_iast B 1 rfl hi rfl d hp kk
theorem m_ref3 {Γ : Ctx} {cc : ByteArray} {nL k n pc pc' : Nat} {own : String} {R0 : Room} {lv : List (Nat × Value)} {st : List Value} {index : Nat} {a : Nat → Nat} {S : MO} (B : CX Γ cc nL own R0) (hw : Cond.fieldLink own index "DictationBeltModel" "text" "[I" ∈ GW) (d : decode cc pc = .ok (.getfield index, 3)) (hp : pc + 3 = pc') (kk : X Γ nL k n pc' lv (.ref (a 2) :: st) (wM Γ.cs.1 a S)) : X Γ nL k n pc lv (.ref (a 0) :: st) (wM Γ.cs.1 a S) :=
  x_getf B 0 3 rfl rfl inlX3 (by decide) hw rfl d hp kk
theorem m_ald3 {Γ : Ctx} {cc : ByteArray} {nL k n pc pc' : Nat} {own : String} {R0 : Room} {lv : List (Nat × Value)} {st : List Value} {index : Nat} {a : Nat → Nat} {S : MO} {i : Int32} (B : CX Γ cc nL own R0) (hi : vp_in i 60) (d : decode cc pc = .ok (.iaload, 1)) (hp : pc + 1 = pc') (kk : X Γ nL k n pc' lv (.int (S.2.1 3 i.toNatClampNeg) :: st) (wM Γ.cs.1 a S)) : X Γ nL k n pc lv (.int i :: .ref (a 2) :: st) (wM Γ.cs.1 a S) :=
  x_iald B 2 rfl hi d hp kk
theorem m_ast3 {Γ : Ctx} {cc : ByteArray} {nL k n pc pc' : Nat} {own : String} {R0 : Room} {lv : List (Nat × Value)} {st : List Value} {index : Nat} {a : Nat → Nat} {S : MO} {i v : Int32} (B : CX Γ cc nL own R0) (hi : vp_in i 60) (d : decode cc pc = .ok (.iastore, 1)) (hp : pc + 1 = pc') (kk : X Γ nL k n pc' lv st (wM Γ.cs.1 a (S.1, up2 S.2.1 3 (upd (S.2.1 3) i.toNatClampNeg v), S.2.2))) : X Γ nL k n pc lv (.int v :: .int i :: .ref (a 2) :: st) (wM Γ.cs.1 a S) :=
  x_iast B 2 rfl hi rfl d hp kk
theorem m_get9 {Γ : Ctx} {cc : ByteArray} {nL k n pc pc' : Nat} {own : String} {R0 : Room} {lv : List (Nat × Value)} {st : List Value} {index : Nat} {a : Nat → Nat} {S : MO} (B : CX Γ cc nL own R0) (hw : Cond.fieldLink own index "DictationBeltModel" "hash" "J" ∈ GW) (d : decode cc pc = .ok (.getfield index, 3)) (hp : pc + 3 = pc') (kk : X Γ nL k n pc' lv (.long S.2.2 :: st) (wM Γ.cs.1 a S)) : X Γ nL k n pc lv (.ref (a 0) :: st) (wM Γ.cs.1 a S) :=
  x_getf B 0 9 rfl rfl inlX3 (by decide) hw rfl d hp kk
theorem m_put9 {Γ : Ctx} {cc : ByteArray} {nL k n pc pc' : Nat} {own : String} {R0 : Room} {lv : List (Nat × Value)} {st : List Value} {index : Nat} {a : Nat → Nat} {S : MO} {v : Int64} (B : CX Γ cc nL own R0) (hw : Cond.fieldLink own index "DictationBeltModel" "hash" "J" ∈ GW) (d : decode cc pc = .ok (.putfield index, 3)) (hp : pc + 3 = pc') (kk : X Γ nL k n pc' lv st (wM Γ.cs.1 a (S.1, S.2.1, v))) : X Γ nL k n pc lv (.long v :: .ref (a 0) :: st) (wM Γ.cs.1 a S) :=
  x_putf B 0 9 tyX3 tyX3_ok nmX3 rfl rfl inlX3 (by decide) hw rfl rfl rfl (Nat.le_of_ble_eq_true rfl) rfl d hp kk
theorem b_get2 {Γ : Ctx} {cc : ByteArray} {nL k n pc pc' : Nat} {own : String} {R0 : Room} {lv : List (Nat × Value)} {st : List Value} {index : Nat} {a : Nat → Nat → Nat} {S : BO} (B : CX Γ cc nL own R0) (hw : Cond.fieldLink own index "DictationBelt" "nextSlot" "I" ∈ GW) (d : decode cc pc = .ok (.getfield index, 3)) (hp : pc + 3 = pc') (kk : X Γ nL k n pc' lv (.int (S.1 2) :: st) (wB Γ.cs a S)) : X Γ nL k n pc lv (.ref (a 0 0) :: st) (wB Γ.cs a S) :=
  x_getf B 0 2 rfl rfl inlX2 (by decide) hw rfl d hp kk
theorem b_put2 {Γ : Ctx} {cc : ByteArray} {nL k n pc pc' : Nat} {own : String} {R0 : Room} {lv : List (Nat × Value)} {st : List Value} {index : Nat} {a : Nat → Nat → Nat} {S : BO} {v : Int32} (B : CX Γ cc nL own R0) (hw : Cond.fieldLink own index "DictationBelt" "nextSlot" "I" ∈ GW) (d : decode cc pc = .ok (.putfield index, 3)) (hp : pc + 3 = pc') (kk : X Γ nL k n pc' lv st (wB Γ.cs a (upd S.1 2 v, S.2))) : X Γ nL k n pc lv (.int v :: .ref (a 0 0) :: st) (wB Γ.cs a S) :=
  x_putf B 0 2 tyX2 tyX2_ok nmX2 rfl rfl inlX2 (by decide) hw rfl rfl rfl (Nat.le_of_ble_eq_true rfl) rfl d hp kk
theorem b_get3 {Γ : Ctx} {cc : ByteArray} {nL k n pc pc' : Nat} {own : String} {R0 : Room} {lv : List (Nat × Value)} {st : List Value} {index : Nat} {a : Nat → Nat → Nat} {S : BO} (B : CX Γ cc nL own R0) (hw : Cond.fieldLink own index "DictationBelt" "savedCount" "I" ∈ GW) (d : decode cc pc = .ok (.getfield index, 3)) (hp : pc + 3 = pc') (kk : X Γ nL k n pc' lv (.int (S.1 3) :: st) (wB Γ.cs a S)) : X Γ nL k n pc lv (.ref (a 0 0) :: st) (wB Γ.cs a S) :=
  x_getf B 0 3 rfl rfl inlX2 (by decide) hw rfl d hp kk
theorem b_put3 {Γ : Ctx} {cc : ByteArray} {nL k n pc pc' : Nat} {own : String} {R0 : Room} {lv : List (Nat × Value)} {st : List Value} {index : Nat} {a : Nat → Nat → Nat} {S : BO} {v : Int32} (B : CX Γ cc nL own R0) (hw : Cond.fieldLink own index "DictationBelt" "savedCount" "I" ∈ GW) (d : decode cc pc = .ok (.putfield index, 3)) (hp : pc + 3 = pc') (kk : X Γ nL k n pc' lv st (wB Γ.cs a (upd S.1 3 v, S.2))) : X Γ nL k n pc lv (.int v :: .ref (a 0 0) :: st) (wB Γ.cs a S) :=
  x_putf B 0 3 tyX2 tyX2_ok nmX2 rfl rfl inlX2 (by decide) hw rfl rfl rfl (Nat.le_of_ble_eq_true rfl) rfl d hp kk
theorem b_ref0 {Γ : Ctx} {cc : ByteArray} {nL k n pc pc' : Nat} {own : String} {R0 : Room} {lv : List (Nat × Value)} {st : List Value} {index : Nat} {a : Nat → Nat → Nat} {S : BO} (B : CX Γ cc nL own R0) (hw : Cond.fieldLink own index "DictationBelt" "now" "LDictationBelt$State;" ∈ GW) (d : decode cc pc = .ok (.getfield index, 3)) (hp : pc + 3 = pc') (kk : X Γ nL k n pc' lv (.ref (a 1 0) :: st) (wB Γ.cs a S)) : X Γ nL k n pc lv (.ref (a 0 0) :: st) (wB Γ.cs a S) :=
  x_getf B 0 0 rfl rfl inlX2 (by decide) hw rfl d hp kk
theorem b_ref1 {Γ : Ctx} {cc : ByteArray} {nL k n pc pc' : Nat} {own : String} {R0 : Room} {lv : List (Nat × Value)} {st : List Value} {index : Nat} {a : Nat → Nat → Nat} {S : BO} (B : CX Γ cc nL own R0) (hw : Cond.fieldLink own index "DictationBelt" "saved" "[LDictationBelt$State;" ∈ GW) (d : decode cc pc = .ok (.getfield index, 3)) (hp : pc + 3 = pc') (kk : X Γ nL k n pc' lv (.ref (a 0 1) :: st) (wB Γ.cs a S)) : X Γ nL k n pc lv (.ref (a 0 0) :: st) (wB Γ.cs a S) :=
  x_getf B 0 1 rfl rfl inlX2 (by decide) hw rfl d hp kk
theorem b_ref4 {Γ : Ctx} {cc : ByteArray} {nL k n pc pc' : Nat} {own : String} {R0 : Room} {lv : List (Nat × Value)} {st : List Value} {index : Nat} {a : Nat → Nat → Nat} {S : BO} (B : CX Γ cc nL own R0) (hw : Cond.fieldLink own index "DictationBelt" "text" "LDictationBelt$OrderText;" ∈ GW) (d : decode cc pc = .ok (.getfield index, 3)) (hp : pc + 3 = pc') (kk : X Γ nL k n pc' lv (.ref (a 2 0) :: st) (wB Γ.cs a S)) : X Γ nL k n pc lv (.ref (a 0 0) :: st) (wB Γ.cs a S) :=
  x_getf B 0 4 rfl rfl inlX2 (by decide) hw rfl d hp kk
theorem bn_get4 {Γ : Ctx} {cc : ByteArray} {nL k n pc pc' : Nat} {own : String} {R0 : Room} {lv : List (Nat × Value)} {st : List Value} {index : Nat} {a : Nat → Nat → Nat} {S : BO} (B : CX Γ cc nL own R0) (hw : Cond.fieldLink own index "DictationBelt$State" "used" "I" ∈ GW) (d : decode cc pc = .ok (.getfield index, 3)) (hp : pc + 3 = pc') (kk : X Γ nL k n pc' lv (.int (S.2.1.1 4) :: st) (wB Γ.cs a S)) : X Γ nL k n pc lv (.ref (a 1 0) :: st) (wB Γ.cs a S) :=
  x_getf B 2 4 rfl rfl inlX1 (by decide) hw rfl d hp kk
theorem bn_put4 {Γ : Ctx} {cc : ByteArray} {nL k n pc pc' : Nat} {own : String} {R0 : Room} {lv : List (Nat × Value)} {st : List Value} {index : Nat} {a : Nat → Nat → Nat} {S : BO} {v : Int32} (B : CX Γ cc nL own R0) (hw : Cond.fieldLink own index "DictationBelt$State" "used" "I" ∈ GW) (d : decode cc pc = .ok (.putfield index, 3)) (hp : pc + 3 = pc') (kk : X Γ nL k n pc' lv st (wB Γ.cs a (S.1, (upd S.2.1.1 4 v, S.2.1.2), S.2.2))) : X Γ nL k n pc lv (.int v :: .ref (a 1 0) :: st) (wB Γ.cs a S) :=
  x_putf B 2 4 tyX1 tyX1_ok nmX1 rfl rfl inlX1 (by decide) hw rfl rfl rfl (Nat.le_of_ble_eq_true rfl) rfl d hp kk
theorem bn_get7 {Γ : Ctx} {cc : ByteArray} {nL k n pc pc' : Nat} {own : String} {R0 : Room} {lv : List (Nat × Value)} {st : List Value} {index : Nat} {a : Nat → Nat → Nat} {S : BO} (B : CX Γ cc nL own R0) (hw : Cond.fieldLink own index "DictationBelt$State" "count" "I" ∈ GW) (d : decode cc pc = .ok (.getfield index, 3)) (hp : pc + 3 = pc') (kk : X Γ nL k n pc' lv (.int (S.2.1.1 7) :: st) (wB Γ.cs a S)) : X Γ nL k n pc lv (.ref (a 1 0) :: st) (wB Γ.cs a S) :=
  x_getf B 2 7 rfl rfl inlX1 (by decide) hw rfl d hp kk
theorem bn_put7 {Γ : Ctx} {cc : ByteArray} {nL k n pc pc' : Nat} {own : String} {R0 : Room} {lv : List (Nat × Value)} {st : List Value} {index : Nat} {a : Nat → Nat → Nat} {S : BO} {v : Int32} (B : CX Γ cc nL own R0) (hw : Cond.fieldLink own index "DictationBelt$State" "count" "I" ∈ GW) (d : decode cc pc = .ok (.putfield index, 3)) (hp : pc + 3 = pc') (kk : X Γ nL k n pc' lv st (wB Γ.cs a (S.1, (upd S.2.1.1 7 v, S.2.1.2), S.2.2))) : X Γ nL k n pc lv (.int v :: .ref (a 1 0) :: st) (wB Γ.cs a S) :=
  x_putf B 2 7 tyX1 tyX1_ok nmX1 rfl rfl inlX1 (by decide) hw rfl rfl rfl (Nat.le_of_ble_eq_true rfl) rfl d hp kk
theorem bn_get8 {Γ : Ctx} {cc : ByteArray} {nL k n pc pc' : Nat} {own : String} {R0 : Room} {lv : List (Nat × Value)} {st : List Value} {index : Nat} {a : Nat → Nat → Nat} {S : BO} (B : CX Γ cc nL own R0) (hw : Cond.fieldLink own index "DictationBelt$State" "isRunning" "Z" ∈ GW) (d : decode cc pc = .ok (.getfield index, 3)) (hp : pc + 3 = pc') (kk : X Γ nL k n pc' lv (.int (S.2.1.1 8) :: st) (wB Γ.cs a S)) : X Γ nL k n pc lv (.ref (a 1 0) :: st) (wB Γ.cs a S) :=
  x_getf B 2 8 rfl rfl inlX1 (by decide) hw rfl d hp kk
theorem bn_put8 {Γ : Ctx} {cc : ByteArray} {nL k n pc pc' : Nat} {own : String} {R0 : Room} {lv : List (Nat × Value)} {st : List Value} {index : Nat} {a : Nat → Nat → Nat} {S : BO} {v : Int32} (hv : v = 0 ∨ v = 1) (B : CX Γ cc nL own R0) (hw : Cond.fieldLink own index "DictationBelt$State" "isRunning" "Z" ∈ GW) (d : decode cc pc = .ok (.putfield index, 3)) (hp : pc + 3 = pc') (kk : X Γ nL k n pc' lv st (wB Γ.cs a (S.1, (upd S.2.1.1 8 v, S.2.1.2), S.2.2))) : X Γ nL k n pc lv (.int v :: .ref (a 1 0) :: st) (wB Γ.cs a S) :=
  x_putf B 2 8 tyX1 tyX1_ok nmX1 rfl rfl inlX1 (by decide) hw rfl (zb_nar hv) (by rcases hv with rfl | rfl <;> rfl) (Nat.le_of_ble_eq_true rfl) rfl d hp kk
theorem bn_get9 {Γ : Ctx} {cc : ByteArray} {nL k n pc pc' : Nat} {own : String} {R0 : Room} {lv : List (Nat × Value)} {st : List Value} {index : Nat} {a : Nat → Nat → Nat} {S : BO} (B : CX Γ cc nL own R0) (hw : Cond.fieldLink own index "DictationBelt$State" "head" "I" ∈ GW) (d : decode cc pc = .ok (.getfield index, 3)) (hp : pc + 3 = pc') (kk : X Γ nL k n pc' lv (.int (S.2.1.1 9) :: st) (wB Γ.cs a S)) : X Γ nL k n pc lv (.ref (a 1 0) :: st) (wB Γ.cs a S) :=
  x_getf B 2 9 rfl rfl inlX1 (by decide) hw rfl d hp kk
theorem bn_put9 {Γ : Ctx} {cc : ByteArray} {nL k n pc pc' : Nat} {own : String} {R0 : Room} {lv : List (Nat × Value)} {st : List Value} {index : Nat} {a : Nat → Nat → Nat} {S : BO} {v : Int32} (B : CX Γ cc nL own R0) (hw : Cond.fieldLink own index "DictationBelt$State" "head" "I" ∈ GW) (d : decode cc pc = .ok (.putfield index, 3)) (hp : pc + 3 = pc') (kk : X Γ nL k n pc' lv st (wB Γ.cs a (S.1, (upd S.2.1.1 9 v, S.2.1.2), S.2.2))) : X Γ nL k n pc lv (.int v :: .ref (a 1 0) :: st) (wB Γ.cs a S) :=
  x_putf B 2 9 tyX1 tyX1_ok nmX1 rfl rfl inlX1 (by decide) hw rfl rfl rfl (Nat.le_of_ble_eq_true rfl) rfl d hp kk
theorem bn_get10 {Γ : Ctx} {cc : ByteArray} {nL k n pc pc' : Nat} {own : String} {R0 : Room} {lv : List (Nat × Value)} {st : List Value} {index : Nat} {a : Nat → Nat → Nat} {S : BO} (B : CX Γ cc nL own R0) (hw : Cond.fieldLink own index "DictationBelt$State" "spoken" "I" ∈ GW) (d : decode cc pc = .ok (.getfield index, 3)) (hp : pc + 3 = pc') (kk : X Γ nL k n pc' lv (.int (S.2.1.1 10) :: st) (wB Γ.cs a S)) : X Γ nL k n pc lv (.ref (a 1 0) :: st) (wB Γ.cs a S) :=
  x_getf B 2 10 rfl rfl inlX1 (by decide) hw rfl d hp kk
theorem bn_put10 {Γ : Ctx} {cc : ByteArray} {nL k n pc pc' : Nat} {own : String} {R0 : Room} {lv : List (Nat × Value)} {st : List Value} {index : Nat} {a : Nat → Nat → Nat} {S : BO} {v : Int32} (B : CX Γ cc nL own R0) (hw : Cond.fieldLink own index "DictationBelt$State" "spoken" "I" ∈ GW) (d : decode cc pc = .ok (.putfield index, 3)) (hp : pc + 3 = pc') (kk : X Γ nL k n pc' lv st (wB Γ.cs a (S.1, (upd S.2.1.1 10 v, S.2.1.2), S.2.2))) : X Γ nL k n pc lv (.int v :: .ref (a 1 0) :: st) (wB Γ.cs a S) :=
  x_putf B 2 10 tyX1 tyX1_ok nmX1 rfl rfl inlX1 (by decide) hw rfl rfl rfl (Nat.le_of_ble_eq_true rfl) rfl d hp kk
theorem bn_get11 {Γ : Ctx} {cc : ByteArray} {nL k n pc pc' : Nat} {own : String} {R0 : Room} {lv : List (Nat × Value)} {st : List Value} {index : Nat} {a : Nat → Nat → Nat} {S : BO} (B : CX Γ cc nL own R0) (hw : Cond.fieldLink own index "DictationBelt$State" "gone" "I" ∈ GW) (d : decode cc pc = .ok (.getfield index, 3)) (hp : pc + 3 = pc') (kk : X Γ nL k n pc' lv (.int (S.2.1.1 11) :: st) (wB Γ.cs a S)) : X Γ nL k n pc lv (.ref (a 1 0) :: st) (wB Γ.cs a S) :=
  x_getf B 2 11 rfl rfl inlX1 (by decide) hw rfl d hp kk
theorem bn_put11 {Γ : Ctx} {cc : ByteArray} {nL k n pc pc' : Nat} {own : String} {R0 : Room} {lv : List (Nat × Value)} {st : List Value} {index : Nat} {a : Nat → Nat → Nat} {S : BO} {v : Int32} (B : CX Γ cc nL own R0) (hw : Cond.fieldLink own index "DictationBelt$State" "gone" "I" ∈ GW) (d : decode cc pc = .ok (.putfield index, 3)) (hp : pc + 3 = pc') (kk : X Γ nL k n pc' lv st (wB Γ.cs a (S.1, (upd S.2.1.1 11 v, S.2.1.2), S.2.2))) : X Γ nL k n pc lv (.int v :: .ref (a 1 0) :: st) (wB Γ.cs a S) :=
  x_putf B 2 11 tyX1 tyX1_ok nmX1 rfl rfl inlX1 (by decide) hw rfl rfl rfl (Nat.le_of_ble_eq_true rfl) rfl d hp kk
theorem bn_get12 {Γ : Ctx} {cc : ByteArray} {nL k n pc pc' : Nat} {own : String} {R0 : Room} {lv : List (Nat × Value)} {st : List Value} {index : Nat} {a : Nat → Nat → Nat} {S : BO} (B : CX Γ cc nL own R0) (hw : Cond.fieldLink own index "DictationBelt$State" "player" "I" ∈ GW) (d : decode cc pc = .ok (.getfield index, 3)) (hp : pc + 3 = pc') (kk : X Γ nL k n pc' lv (.int (S.2.1.1 12) :: st) (wB Γ.cs a S)) : X Γ nL k n pc lv (.ref (a 1 0) :: st) (wB Γ.cs a S) :=
  x_getf B 2 12 rfl rfl inlX1 (by decide) hw rfl d hp kk
theorem bn_put12 {Γ : Ctx} {cc : ByteArray} {nL k n pc pc' : Nat} {own : String} {R0 : Room} {lv : List (Nat × Value)} {st : List Value} {index : Nat} {a : Nat → Nat → Nat} {S : BO} {v : Int32} (B : CX Γ cc nL own R0) (hw : Cond.fieldLink own index "DictationBelt$State" "player" "I" ∈ GW) (d : decode cc pc = .ok (.putfield index, 3)) (hp : pc + 3 = pc') (kk : X Γ nL k n pc' lv st (wB Γ.cs a (S.1, (upd S.2.1.1 12 v, S.2.1.2), S.2.2))) : X Γ nL k n pc lv (.int v :: .ref (a 1 0) :: st) (wB Γ.cs a S) :=
  x_putf B 2 12 tyX1 tyX1_ok nmX1 rfl rfl inlX1 (by decide) hw rfl rfl rfl (Nat.le_of_ble_eq_true rfl) rfl d hp kk
theorem bn_get13 {Γ : Ctx} {cc : ByteArray} {nL k n pc pc' : Nat} {own : String} {R0 : Room} {lv : List (Nat × Value)} {st : List Value} {index : Nat} {a : Nat → Nat → Nat} {S : BO} (B : CX Γ cc nL own R0) (hw : Cond.fieldLink own index "DictationBelt$State" "place" "I" ∈ GW) (d : decode cc pc = .ok (.getfield index, 3)) (hp : pc + 3 = pc') (kk : X Γ nL k n pc' lv (.int (S.2.1.1 13) :: st) (wB Γ.cs a S)) : X Γ nL k n pc lv (.ref (a 1 0) :: st) (wB Γ.cs a S) :=
  x_getf B 2 13 rfl rfl inlX1 (by decide) hw rfl d hp kk
theorem bn_put13 {Γ : Ctx} {cc : ByteArray} {nL k n pc pc' : Nat} {own : String} {R0 : Room} {lv : List (Nat × Value)} {st : List Value} {index : Nat} {a : Nat → Nat → Nat} {S : BO} {v : Int32} (B : CX Γ cc nL own R0) (hw : Cond.fieldLink own index "DictationBelt$State" "place" "I" ∈ GW) (d : decode cc pc = .ok (.putfield index, 3)) (hp : pc + 3 = pc') (kk : X Γ nL k n pc' lv st (wB Γ.cs a (S.1, (upd S.2.1.1 13 v, S.2.1.2), S.2.2))) : X Γ nL k n pc lv (.int v :: .ref (a 1 0) :: st) (wB Γ.cs a S) :=
  x_putf B 2 13 tyX1 tyX1_ok nmX1 rfl rfl inlX1 (by decide) hw rfl rfl rfl (Nat.le_of_ble_eq_true rfl) rfl d hp kk
theorem bn_ref0 {Γ : Ctx} {cc : ByteArray} {nL k n pc pc' : Nat} {own : String} {R0 : Room} {lv : List (Nat × Value)} {st : List Value} {index : Nat} {a : Nat → Nat → Nat} {S : BO} (B : CX Γ cc nL own R0) (hw : Cond.fieldLink own index "DictationBelt$State" "owners" "[I" ∈ GW) (d : decode cc pc = .ok (.getfield index, 3)) (hp : pc + 3 = pc') (kk : X Γ nL k n pc' lv (.ref (a 1 1) :: st) (wB Γ.cs a S)) : X Γ nL k n pc lv (.ref (a 1 0) :: st) (wB Γ.cs a S) :=
  x_getf B 2 0 rfl rfl inlX1 (by decide) hw rfl d hp kk
theorem bn_ald0 {Γ : Ctx} {cc : ByteArray} {nL k n pc pc' : Nat} {own : String} {R0 : Room} {lv : List (Nat × Value)} {st : List Value} {index : Nat} {a : Nat → Nat → Nat} {S : BO} {i : Int32} (B : CX Γ cc nL own R0) (hi : vp_in i 32) (d : decode cc pc = .ok (.iaload, 1)) (hp : pc + 1 = pc') (kk : X Γ nL k n pc' lv (.int (S.2.1.2 0 i.toNatClampNeg) :: st) (wB Γ.cs a S)) : X Γ nL k n pc lv (.int i :: .ref (a 1 1) :: st) (wB Γ.cs a S) :=
  x_iald B 3 rfl hi d hp kk
theorem bn_ast0 {Γ : Ctx} {cc : ByteArray} {nL k n pc pc' : Nat} {own : String} {R0 : Room} {lv : List (Nat × Value)} {st : List Value} {index : Nat} {a : Nat → Nat → Nat} {S : BO} {i v : Int32} (B : CX Γ cc nL own R0) (hi : vp_in i 32) (d : decode cc pc = .ok (.iastore, 1)) (hp : pc + 1 = pc') (kk : X Γ nL k n pc' lv st (wB Γ.cs a (S.1, (S.2.1.1, up2 S.2.1.2 0 (upd (S.2.1.2 0) i.toNatClampNeg v)), S.2.2))) : X Γ nL k n pc lv (.int v :: .int i :: .ref (a 1 1) :: st) (wB Γ.cs a S) :=
  x_iast B 3 rfl hi rfl d hp kk
theorem bn_vAt0 {Γ : Ctx} {cc : ByteArray} {nL k n pc pc' : Nat} {R0 : Room} {lv : List (Nat × Value)} {st : List Value} {index : Nat} {a : Nat → Nat → Nat} {S : BO} {i : Int32} (B : CX Γ cc nL RX2 R0) (hR : 1 ≤ R0.frames ∧ 21 ≤ R0.locals) (hroom : k ≤ R0.cells ∧ n ≤ R0.slots) (hsum : (st.map fun v => v.category).sum ≤ 8) (hi9 : index = gv_valueAt_idx) (d : decode cc pc = .ok (.invokestatic index, 3)) (hp : pc + 3 = pc') (kk : X Γ nL k n pc' lv (.int (vAt 32 (S.2.1.2 0) i) :: st) (wB Γ.cs a S)) : X Γ nL k n pc lv (.int i :: .ref (a 1 1) :: st) (wB Γ.cs a S) :=
  x_GSi (ws' := wB Γ.cs a S) (wr := (wB Γ.cs a S).eraseIdx 3) B [.ref (a 1 1), .int i] (c_valueAt _ _ _ 32 (by decide) (a 1 1) i (S.2.1.2 0)) [3] [0, 1, 2, 4, 5, 6, 7, 8, 9, 10, 11, 12, 13, 14, 15, 16, 17, 18, 19, 20, 21, 22, 23, 24, 25, 26, 27, 28, 29, 30, 31, 32, 33, 34, 35, 36, 37, 38, 39, 40, 41, 42, 43, 44, 45, 46, 47, 48, 49, 50, 51, 52] [0, 1, 2, 52, 3, 4, 5, 6, 7, 8, 9, 10, 11, 12, 13, 14, 15, 16, 17, 18, 19, 20, 21, 22, 23, 24, 25, 26, 27, 28, 29, 30, 31, 32, 33, 34, 35, 36, 37, 38, 39, 40, 41, 42, 43, 44, 45, 46, 47, 48, 49, 50, 51] rfl rfl rfl rfl (by decide) rfl rfl (hi9 ▸ gs_RX2_valueAt) np_valueAt hR hroom rfl hsum d hp kk
theorem bn_pAt0 {Γ : Ctx} {cc : ByteArray} {nL k n pc pc' : Nat} {R0 : Room} {lv : List (Nat × Value)} {st : List Value} {index : Nat} {a : Nat → Nat → Nat} {S : BO} {i v : Int32} (B : CX Γ cc nL RX2 R0) (hR : 1 ≤ R0.frames ∧ 22 ≤ R0.locals) (hroom : k ≤ R0.cells ∧ n ≤ R0.slots) (hsum : (st.map fun v => v.category).sum ≤ 8) (hi9 : index = gv_putAt_idx) (d : decode cc pc = .ok (.invokestatic index, 3)) (hp : pc + 3 = pc') (kk : X Γ nL k n pc' lv st (wB Γ.cs a (S.1, (S.2.1.1, up2 S.2.1.2 0 (pAt 32 (S.2.1.2 0) i v)), S.2.2))) : X Γ nL k n pc lv (.int v :: .int i :: .ref (a 1 1) :: st) (wB Γ.cs a S) :=
  x_GSv (ws' := wB Γ.cs a (S.1, (S.2.1.1, up2 S.2.1.2 0 (pAt 32 (S.2.1.2 0) i v)), S.2.2)) (wr := (wB Γ.cs a S).eraseIdx 3) B [.ref (a 1 1), .int i, .int v] (c_putAt _ _ _ 32 (by decide) (a 1 1) i v (S.2.1.2 0)) [3] [0, 1, 2, 4, 5, 6, 7, 8, 9, 10, 11, 12, 13, 14, 15, 16, 17, 18, 19, 20, 21, 22, 23, 24, 25, 26, 27, 28, 29, 30, 31, 32, 33, 34, 35, 36, 37, 38, 39, 40, 41, 42, 43, 44, 45, 46, 47, 48, 49, 50, 51, 52] [0, 1, 2, 52, 3, 4, 5, 6, 7, 8, 9, 10, 11, 12, 13, 14, 15, 16, 17, 18, 19, 20, 21, 22, 23, 24, 25, 26, 27, 28, 29, 30, 31, 32, 33, 34, 35, 36, 37, 38, 39, 40, 41, 42, 43, 44, 45, 46, 47, 48, 49, 50, 51] rfl rfl rfl rfl (by decide) rfl rfl (hi9 ▸ gs_RX2_putAt) np_putAt hR hroom rfl hsum d hp kk
theorem bn_ref1 {Γ : Ctx} {cc : ByteArray} {nL k n pc pc' : Nat} {own : String} {R0 : Room} {lv : List (Nat × Value)} {st : List Value} {index : Nat} {a : Nat → Nat → Nat} {S : BO} (B : CX Γ cc nL own R0) (hw : Cond.fieldLink own index "DictationBelt$State" "sounds" "[I" ∈ GW) (d : decode cc pc = .ok (.getfield index, 3)) (hp : pc + 3 = pc') (kk : X Γ nL k n pc' lv (.ref (a 1 2) :: st) (wB Γ.cs a S)) : X Γ nL k n pc lv (.ref (a 1 0) :: st) (wB Γ.cs a S) :=
  x_getf B 2 1 rfl rfl inlX1 (by decide) hw rfl d hp kk
theorem bn_ald1 {Γ : Ctx} {cc : ByteArray} {nL k n pc pc' : Nat} {own : String} {R0 : Room} {lv : List (Nat × Value)} {st : List Value} {index : Nat} {a : Nat → Nat → Nat} {S : BO} {i : Int32} (B : CX Γ cc nL own R0) (hi : vp_in i 32) (d : decode cc pc = .ok (.iaload, 1)) (hp : pc + 1 = pc') (kk : X Γ nL k n pc' lv (.int (S.2.1.2 1 i.toNatClampNeg) :: st) (wB Γ.cs a S)) : X Γ nL k n pc lv (.int i :: .ref (a 1 2) :: st) (wB Γ.cs a S) :=
  x_iald B 4 rfl hi d hp kk
theorem bn_ast1 {Γ : Ctx} {cc : ByteArray} {nL k n pc pc' : Nat} {own : String} {R0 : Room} {lv : List (Nat × Value)} {st : List Value} {index : Nat} {a : Nat → Nat → Nat} {S : BO} {i v : Int32} (B : CX Γ cc nL own R0) (hi : vp_in i 32) (d : decode cc pc = .ok (.iastore, 1)) (hp : pc + 1 = pc') (kk : X Γ nL k n pc' lv st (wB Γ.cs a (S.1, (S.2.1.1, up2 S.2.1.2 1 (upd (S.2.1.2 1) i.toNatClampNeg v)), S.2.2))) : X Γ nL k n pc lv (.int v :: .int i :: .ref (a 1 2) :: st) (wB Γ.cs a S) :=
  x_iast B 4 rfl hi rfl d hp kk
theorem bn_vAt1 {Γ : Ctx} {cc : ByteArray} {nL k n pc pc' : Nat} {R0 : Room} {lv : List (Nat × Value)} {st : List Value} {index : Nat} {a : Nat → Nat → Nat} {S : BO} {i : Int32} (B : CX Γ cc nL RX2 R0) (hR : 1 ≤ R0.frames ∧ 21 ≤ R0.locals) (hroom : k ≤ R0.cells ∧ n ≤ R0.slots) (hsum : (st.map fun v => v.category).sum ≤ 8) (hi9 : index = gv_valueAt_idx) (d : decode cc pc = .ok (.invokestatic index, 3)) (hp : pc + 3 = pc') (kk : X Γ nL k n pc' lv (.int (vAt 32 (S.2.1.2 1) i) :: st) (wB Γ.cs a S)) : X Γ nL k n pc lv (.int i :: .ref (a 1 2) :: st) (wB Γ.cs a S) :=
  x_GSi (ws' := wB Γ.cs a S) (wr := (wB Γ.cs a S).eraseIdx 4) B [.ref (a 1 2), .int i] (c_valueAt _ _ _ 32 (by decide) (a 1 2) i (S.2.1.2 1)) [4] [0, 1, 2, 3, 5, 6, 7, 8, 9, 10, 11, 12, 13, 14, 15, 16, 17, 18, 19, 20, 21, 22, 23, 24, 25, 26, 27, 28, 29, 30, 31, 32, 33, 34, 35, 36, 37, 38, 39, 40, 41, 42, 43, 44, 45, 46, 47, 48, 49, 50, 51, 52] [0, 1, 2, 3, 52, 4, 5, 6, 7, 8, 9, 10, 11, 12, 13, 14, 15, 16, 17, 18, 19, 20, 21, 22, 23, 24, 25, 26, 27, 28, 29, 30, 31, 32, 33, 34, 35, 36, 37, 38, 39, 40, 41, 42, 43, 44, 45, 46, 47, 48, 49, 50, 51] rfl rfl rfl rfl (by decide) rfl rfl (hi9 ▸ gs_RX2_valueAt) np_valueAt hR hroom rfl hsum d hp kk
theorem bn_pAt1 {Γ : Ctx} {cc : ByteArray} {nL k n pc pc' : Nat} {R0 : Room} {lv : List (Nat × Value)} {st : List Value} {index : Nat} {a : Nat → Nat → Nat} {S : BO} {i v : Int32} (B : CX Γ cc nL RX2 R0) (hR : 1 ≤ R0.frames ∧ 22 ≤ R0.locals) (hroom : k ≤ R0.cells ∧ n ≤ R0.slots) (hsum : (st.map fun v => v.category).sum ≤ 8) (hi9 : index = gv_putAt_idx) (d : decode cc pc = .ok (.invokestatic index, 3)) (hp : pc + 3 = pc') (kk : X Γ nL k n pc' lv st (wB Γ.cs a (S.1, (S.2.1.1, up2 S.2.1.2 1 (pAt 32 (S.2.1.2 1) i v)), S.2.2))) : X Γ nL k n pc lv (.int v :: .int i :: .ref (a 1 2) :: st) (wB Γ.cs a S) :=
  x_GSv (ws' := wB Γ.cs a (S.1, (S.2.1.1, up2 S.2.1.2 1 (pAt 32 (S.2.1.2 1) i v)), S.2.2)) (wr := (wB Γ.cs a S).eraseIdx 4) B [.ref (a 1 2), .int i, .int v] (c_putAt _ _ _ 32 (by decide) (a 1 2) i v (S.2.1.2 1)) [4] [0, 1, 2, 3, 5, 6, 7, 8, 9, 10, 11, 12, 13, 14, 15, 16, 17, 18, 19, 20, 21, 22, 23, 24, 25, 26, 27, 28, 29, 30, 31, 32, 33, 34, 35, 36, 37, 38, 39, 40, 41, 42, 43, 44, 45, 46, 47, 48, 49, 50, 51, 52] [0, 1, 2, 3, 52, 4, 5, 6, 7, 8, 9, 10, 11, 12, 13, 14, 15, 16, 17, 18, 19, 20, 21, 22, 23, 24, 25, 26, 27, 28, 29, 30, 31, 32, 33, 34, 35, 36, 37, 38, 39, 40, 41, 42, 43, 44, 45, 46, 47, 48, 49, 50, 51] rfl rfl rfl rfl (by decide) rfl rfl (hi9 ▸ gs_RX2_putAt) np_putAt hR hroom rfl hsum d hp kk
theorem bn_ref2 {Γ : Ctx} {cc : ByteArray} {nL k n pc pc' : Nat} {own : String} {R0 : Room} {lv : List (Nat × Value)} {st : List Value} {index : Nat} {a : Nat → Nat → Nat} {S : BO} (B : CX Γ cc nL own R0) (hw : Cond.fieldLink own index "DictationBelt$State" "carbons" "[I" ∈ GW) (d : decode cc pc = .ok (.getfield index, 3)) (hp : pc + 3 = pc') (kk : X Γ nL k n pc' lv (.ref (a 1 3) :: st) (wB Γ.cs a S)) : X Γ nL k n pc lv (.ref (a 1 0) :: st) (wB Γ.cs a S) :=
  x_getf B 2 2 rfl rfl inlX1 (by decide) hw rfl d hp kk
theorem bn_ald2 {Γ : Ctx} {cc : ByteArray} {nL k n pc pc' : Nat} {own : String} {R0 : Room} {lv : List (Nat × Value)} {st : List Value} {index : Nat} {a : Nat → Nat → Nat} {S : BO} {i : Int32} (B : CX Γ cc nL own R0) (hi : vp_in i 32) (d : decode cc pc = .ok (.iaload, 1)) (hp : pc + 1 = pc') (kk : X Γ nL k n pc' lv (.int (S.2.1.2 2 i.toNatClampNeg) :: st) (wB Γ.cs a S)) : X Γ nL k n pc lv (.int i :: .ref (a 1 3) :: st) (wB Γ.cs a S) :=
  x_iald B 5 rfl hi d hp kk
theorem bn_ast2 {Γ : Ctx} {cc : ByteArray} {nL k n pc pc' : Nat} {own : String} {R0 : Room} {lv : List (Nat × Value)} {st : List Value} {index : Nat} {a : Nat → Nat → Nat} {S : BO} {i v : Int32} (B : CX Γ cc nL own R0) (hi : vp_in i 32) (d : decode cc pc = .ok (.iastore, 1)) (hp : pc + 1 = pc') (kk : X Γ nL k n pc' lv st (wB Γ.cs a (S.1, (S.2.1.1, up2 S.2.1.2 2 (upd (S.2.1.2 2) i.toNatClampNeg v)), S.2.2))) : X Γ nL k n pc lv (.int v :: .int i :: .ref (a 1 3) :: st) (wB Γ.cs a S) :=
  x_iast B 5 rfl hi rfl d hp kk
theorem bn_vAt2 {Γ : Ctx} {cc : ByteArray} {nL k n pc pc' : Nat} {R0 : Room} {lv : List (Nat × Value)} {st : List Value} {index : Nat} {a : Nat → Nat → Nat} {S : BO} {i : Int32} (B : CX Γ cc nL RX2 R0) (hR : 1 ≤ R0.frames ∧ 21 ≤ R0.locals) (hroom : k ≤ R0.cells ∧ n ≤ R0.slots) (hsum : (st.map fun v => v.category).sum ≤ 8) (hi9 : index = gv_valueAt_idx) (d : decode cc pc = .ok (.invokestatic index, 3)) (hp : pc + 3 = pc') (kk : X Γ nL k n pc' lv (.int (vAt 32 (S.2.1.2 2) i) :: st) (wB Γ.cs a S)) : X Γ nL k n pc lv (.int i :: .ref (a 1 3) :: st) (wB Γ.cs a S) :=
  x_GSi (ws' := wB Γ.cs a S) (wr := (wB Γ.cs a S).eraseIdx 5) B [.ref (a 1 3), .int i] (c_valueAt _ _ _ 32 (by decide) (a 1 3) i (S.2.1.2 2)) [5] [0, 1, 2, 3, 4, 6, 7, 8, 9, 10, 11, 12, 13, 14, 15, 16, 17, 18, 19, 20, 21, 22, 23, 24, 25, 26, 27, 28, 29, 30, 31, 32, 33, 34, 35, 36, 37, 38, 39, 40, 41, 42, 43, 44, 45, 46, 47, 48, 49, 50, 51, 52] [0, 1, 2, 3, 4, 52, 5, 6, 7, 8, 9, 10, 11, 12, 13, 14, 15, 16, 17, 18, 19, 20, 21, 22, 23, 24, 25, 26, 27, 28, 29, 30, 31, 32, 33, 34, 35, 36, 37, 38, 39, 40, 41, 42, 43, 44, 45, 46, 47, 48, 49, 50, 51] rfl rfl rfl rfl (by decide) rfl rfl (hi9 ▸ gs_RX2_valueAt) np_valueAt hR hroom rfl hsum d hp kk
theorem bn_pAt2 {Γ : Ctx} {cc : ByteArray} {nL k n pc pc' : Nat} {R0 : Room} {lv : List (Nat × Value)} {st : List Value} {index : Nat} {a : Nat → Nat → Nat} {S : BO} {i v : Int32} (B : CX Γ cc nL RX2 R0) (hR : 1 ≤ R0.frames ∧ 22 ≤ R0.locals) (hroom : k ≤ R0.cells ∧ n ≤ R0.slots) (hsum : (st.map fun v => v.category).sum ≤ 8) (hi9 : index = gv_putAt_idx) (d : decode cc pc = .ok (.invokestatic index, 3)) (hp : pc + 3 = pc') (kk : X Γ nL k n pc' lv st (wB Γ.cs a (S.1, (S.2.1.1, up2 S.2.1.2 2 (pAt 32 (S.2.1.2 2) i v)), S.2.2))) : X Γ nL k n pc lv (.int v :: .int i :: .ref (a 1 3) :: st) (wB Γ.cs a S) :=
  x_GSv (ws' := wB Γ.cs a (S.1, (S.2.1.1, up2 S.2.1.2 2 (pAt 32 (S.2.1.2 2) i v)), S.2.2)) (wr := (wB Γ.cs a S).eraseIdx 5) B [.ref (a 1 3), .int i, .int v] (c_putAt _ _ _ 32 (by decide) (a 1 3) i v (S.2.1.2 2)) [5] [0, 1, 2, 3, 4, 6, 7, 8, 9, 10, 11, 12, 13, 14, 15, 16, 17, 18, 19, 20, 21, 22, 23, 24, 25, 26, 27, 28, 29, 30, 31, 32, 33, 34, 35, 36, 37, 38, 39, 40, 41, 42, 43, 44, 45, 46, 47, 48, 49, 50, 51, 52] [0, 1, 2, 3, 4, 52, 5, 6, 7, 8, 9, 10, 11, 12, 13, 14, 15, 16, 17, 18, 19, 20, 21, 22, 23, 24, 25, 26, 27, 28, 29, 30, 31, 32, 33, 34, 35, 36, 37, 38, 39, 40, 41, 42, 43, 44, 45, 46, 47, 48, 49, 50, 51] rfl rfl rfl rfl (by decide) rfl rfl (hi9 ▸ gs_RX2_putAt) np_putAt hR hroom rfl hsum d hp kk
theorem bn_ref3 {Γ : Ctx} {cc : ByteArray} {nL k n pc pc' : Nat} {own : String} {R0 : Room} {lv : List (Nat × Value)} {st : List Value} {index : Nat} {a : Nat → Nat → Nat} {S : BO} (B : CX Γ cc nL own R0) (hw : Cond.fieldLink own index "DictationBelt$State" "order" "[I" ∈ GW) (d : decode cc pc = .ok (.getfield index, 3)) (hp : pc + 3 = pc') (kk : X Γ nL k n pc' lv (.ref (a 1 4) :: st) (wB Γ.cs a S)) : X Γ nL k n pc lv (.ref (a 1 0) :: st) (wB Γ.cs a S) :=
  x_getf B 2 3 rfl rfl inlX1 (by decide) hw rfl d hp kk
theorem bn_ald3 {Γ : Ctx} {cc : ByteArray} {nL k n pc pc' : Nat} {own : String} {R0 : Room} {lv : List (Nat × Value)} {st : List Value} {index : Nat} {a : Nat → Nat → Nat} {S : BO} {i : Int32} (B : CX Γ cc nL own R0) (hi : vp_in i 32) (d : decode cc pc = .ok (.iaload, 1)) (hp : pc + 1 = pc') (kk : X Γ nL k n pc' lv (.int (S.2.1.2 3 i.toNatClampNeg) :: st) (wB Γ.cs a S)) : X Γ nL k n pc lv (.int i :: .ref (a 1 4) :: st) (wB Γ.cs a S) :=
  x_iald B 6 rfl hi d hp kk
theorem bn_ast3 {Γ : Ctx} {cc : ByteArray} {nL k n pc pc' : Nat} {own : String} {R0 : Room} {lv : List (Nat × Value)} {st : List Value} {index : Nat} {a : Nat → Nat → Nat} {S : BO} {i v : Int32} (B : CX Γ cc nL own R0) (hi : vp_in i 32) (d : decode cc pc = .ok (.iastore, 1)) (hp : pc + 1 = pc') (kk : X Γ nL k n pc' lv st (wB Γ.cs a (S.1, (S.2.1.1, up2 S.2.1.2 3 (upd (S.2.1.2 3) i.toNatClampNeg v)), S.2.2))) : X Γ nL k n pc lv (.int v :: .int i :: .ref (a 1 4) :: st) (wB Γ.cs a S) :=
  x_iast B 6 rfl hi rfl d hp kk
theorem bn_vAt3 {Γ : Ctx} {cc : ByteArray} {nL k n pc pc' : Nat} {R0 : Room} {lv : List (Nat × Value)} {st : List Value} {index : Nat} {a : Nat → Nat → Nat} {S : BO} {i : Int32} (B : CX Γ cc nL RX2 R0) (hR : 1 ≤ R0.frames ∧ 21 ≤ R0.locals) (hroom : k ≤ R0.cells ∧ n ≤ R0.slots) (hsum : (st.map fun v => v.category).sum ≤ 8) (hi9 : index = gv_valueAt_idx) (d : decode cc pc = .ok (.invokestatic index, 3)) (hp : pc + 3 = pc') (kk : X Γ nL k n pc' lv (.int (vAt 32 (S.2.1.2 3) i) :: st) (wB Γ.cs a S)) : X Γ nL k n pc lv (.int i :: .ref (a 1 4) :: st) (wB Γ.cs a S) :=
  x_GSi (ws' := wB Γ.cs a S) (wr := (wB Γ.cs a S).eraseIdx 6) B [.ref (a 1 4), .int i] (c_valueAt _ _ _ 32 (by decide) (a 1 4) i (S.2.1.2 3)) [6] [0, 1, 2, 3, 4, 5, 7, 8, 9, 10, 11, 12, 13, 14, 15, 16, 17, 18, 19, 20, 21, 22, 23, 24, 25, 26, 27, 28, 29, 30, 31, 32, 33, 34, 35, 36, 37, 38, 39, 40, 41, 42, 43, 44, 45, 46, 47, 48, 49, 50, 51, 52] [0, 1, 2, 3, 4, 5, 52, 6, 7, 8, 9, 10, 11, 12, 13, 14, 15, 16, 17, 18, 19, 20, 21, 22, 23, 24, 25, 26, 27, 28, 29, 30, 31, 32, 33, 34, 35, 36, 37, 38, 39, 40, 41, 42, 43, 44, 45, 46, 47, 48, 49, 50, 51] rfl rfl rfl rfl (by decide) rfl rfl (hi9 ▸ gs_RX2_valueAt) np_valueAt hR hroom rfl hsum d hp kk
theorem bn_pAt3 {Γ : Ctx} {cc : ByteArray} {nL k n pc pc' : Nat} {R0 : Room} {lv : List (Nat × Value)} {st : List Value} {index : Nat} {a : Nat → Nat → Nat} {S : BO} {i v : Int32} (B : CX Γ cc nL RX2 R0) (hR : 1 ≤ R0.frames ∧ 22 ≤ R0.locals) (hroom : k ≤ R0.cells ∧ n ≤ R0.slots) (hsum : (st.map fun v => v.category).sum ≤ 8) (hi9 : index = gv_putAt_idx) (d : decode cc pc = .ok (.invokestatic index, 3)) (hp : pc + 3 = pc') (kk : X Γ nL k n pc' lv st (wB Γ.cs a (S.1, (S.2.1.1, up2 S.2.1.2 3 (pAt 32 (S.2.1.2 3) i v)), S.2.2))) : X Γ nL k n pc lv (.int v :: .int i :: .ref (a 1 4) :: st) (wB Γ.cs a S) :=
  x_GSv (ws' := wB Γ.cs a (S.1, (S.2.1.1, up2 S.2.1.2 3 (pAt 32 (S.2.1.2 3) i v)), S.2.2)) (wr := (wB Γ.cs a S).eraseIdx 6) B [.ref (a 1 4), .int i, .int v] (c_putAt _ _ _ 32 (by decide) (a 1 4) i v (S.2.1.2 3)) [6] [0, 1, 2, 3, 4, 5, 7, 8, 9, 10, 11, 12, 13, 14, 15, 16, 17, 18, 19, 20, 21, 22, 23, 24, 25, 26, 27, 28, 29, 30, 31, 32, 33, 34, 35, 36, 37, 38, 39, 40, 41, 42, 43, 44, 45, 46, 47, 48, 49, 50, 51, 52] [0, 1, 2, 3, 4, 5, 52, 6, 7, 8, 9, 10, 11, 12, 13, 14, 15, 16, 17, 18, 19, 20, 21, 22, 23, 24, 25, 26, 27, 28, 29, 30, 31, 32, 33, 34, 35, 36, 37, 38, 39, 40, 41, 42, 43, 44, 45, 46, 47, 48, 49, 50, 51] rfl rfl rfl rfl (by decide) rfl rfl (hi9 ▸ gs_RX2_putAt) np_putAt hR hroom rfl hsum d hp kk
theorem bn_ref5 {Γ : Ctx} {cc : ByteArray} {nL k n pc pc' : Nat} {own : String} {R0 : Room} {lv : List (Nat × Value)} {st : List Value} {index : Nat} {a : Nat → Nat → Nat} {S : BO} (B : CX Γ cc nL own R0) (hw : Cond.fieldLink own index "DictationBelt$State" "flags" "[I" ∈ GW) (d : decode cc pc = .ok (.getfield index, 3)) (hp : pc + 3 = pc') (kk : X Γ nL k n pc' lv (.ref (a 1 5) :: st) (wB Γ.cs a S)) : X Γ nL k n pc lv (.ref (a 1 0) :: st) (wB Γ.cs a S) :=
  x_getf B 2 5 rfl rfl inlX1 (by decide) hw rfl d hp kk
theorem bn_ald5 {Γ : Ctx} {cc : ByteArray} {nL k n pc pc' : Nat} {own : String} {R0 : Room} {lv : List (Nat × Value)} {st : List Value} {index : Nat} {a : Nat → Nat → Nat} {S : BO} {i : Int32} (B : CX Γ cc nL own R0) (hi : vp_in i 10) (d : decode cc pc = .ok (.iaload, 1)) (hp : pc + 1 = pc') (kk : X Γ nL k n pc' lv (.int (S.2.1.2 5 i.toNatClampNeg) :: st) (wB Γ.cs a S)) : X Γ nL k n pc lv (.int i :: .ref (a 1 5) :: st) (wB Γ.cs a S) :=
  x_iald B 7 rfl hi d hp kk
theorem bn_ast5 {Γ : Ctx} {cc : ByteArray} {nL k n pc pc' : Nat} {own : String} {R0 : Room} {lv : List (Nat × Value)} {st : List Value} {index : Nat} {a : Nat → Nat → Nat} {S : BO} {i v : Int32} (B : CX Γ cc nL own R0) (hi : vp_in i 10) (d : decode cc pc = .ok (.iastore, 1)) (hp : pc + 1 = pc') (kk : X Γ nL k n pc' lv st (wB Γ.cs a (S.1, (S.2.1.1, up2 S.2.1.2 5 (upd (S.2.1.2 5) i.toNatClampNeg v)), S.2.2))) : X Γ nL k n pc lv (.int v :: .int i :: .ref (a 1 5) :: st) (wB Γ.cs a S) :=
  x_iast B 7 rfl hi rfl d hp kk
theorem bn_vAt5 {Γ : Ctx} {cc : ByteArray} {nL k n pc pc' : Nat} {R0 : Room} {lv : List (Nat × Value)} {st : List Value} {index : Nat} {a : Nat → Nat → Nat} {S : BO} {i : Int32} (B : CX Γ cc nL RX2 R0) (hR : 1 ≤ R0.frames ∧ 21 ≤ R0.locals) (hroom : k ≤ R0.cells ∧ n ≤ R0.slots) (hsum : (st.map fun v => v.category).sum ≤ 8) (hi9 : index = gv_valueAt_idx) (d : decode cc pc = .ok (.invokestatic index, 3)) (hp : pc + 3 = pc') (kk : X Γ nL k n pc' lv (.int (vAt 10 (S.2.1.2 5) i) :: st) (wB Γ.cs a S)) : X Γ nL k n pc lv (.int i :: .ref (a 1 5) :: st) (wB Γ.cs a S) :=
  x_GSi (ws' := wB Γ.cs a S) (wr := (wB Γ.cs a S).eraseIdx 7) B [.ref (a 1 5), .int i] (c_valueAt _ _ _ 10 (by decide) (a 1 5) i (S.2.1.2 5)) [7] [0, 1, 2, 3, 4, 5, 6, 8, 9, 10, 11, 12, 13, 14, 15, 16, 17, 18, 19, 20, 21, 22, 23, 24, 25, 26, 27, 28, 29, 30, 31, 32, 33, 34, 35, 36, 37, 38, 39, 40, 41, 42, 43, 44, 45, 46, 47, 48, 49, 50, 51, 52] [0, 1, 2, 3, 4, 5, 6, 52, 7, 8, 9, 10, 11, 12, 13, 14, 15, 16, 17, 18, 19, 20, 21, 22, 23, 24, 25, 26, 27, 28, 29, 30, 31, 32, 33, 34, 35, 36, 37, 38, 39, 40, 41, 42, 43, 44, 45, 46, 47, 48, 49, 50, 51] rfl rfl rfl rfl (by decide) rfl rfl (hi9 ▸ gs_RX2_valueAt) np_valueAt hR hroom rfl hsum d hp kk
theorem bn_pAt5 {Γ : Ctx} {cc : ByteArray} {nL k n pc pc' : Nat} {R0 : Room} {lv : List (Nat × Value)} {st : List Value} {index : Nat} {a : Nat → Nat → Nat} {S : BO} {i v : Int32} (B : CX Γ cc nL RX2 R0) (hR : 1 ≤ R0.frames ∧ 22 ≤ R0.locals) (hroom : k ≤ R0.cells ∧ n ≤ R0.slots) (hsum : (st.map fun v => v.category).sum ≤ 8) (hi9 : index = gv_putAt_idx) (d : decode cc pc = .ok (.invokestatic index, 3)) (hp : pc + 3 = pc') (kk : X Γ nL k n pc' lv st (wB Γ.cs a (S.1, (S.2.1.1, up2 S.2.1.2 5 (pAt 10 (S.2.1.2 5) i v)), S.2.2))) : X Γ nL k n pc lv (.int v :: .int i :: .ref (a 1 5) :: st) (wB Γ.cs a S) :=
  x_GSv (ws' := wB Γ.cs a (S.1, (S.2.1.1, up2 S.2.1.2 5 (pAt 10 (S.2.1.2 5) i v)), S.2.2)) (wr := (wB Γ.cs a S).eraseIdx 7) B [.ref (a 1 5), .int i, .int v] (c_putAt _ _ _ 10 (by decide) (a 1 5) i v (S.2.1.2 5)) [7] [0, 1, 2, 3, 4, 5, 6, 8, 9, 10, 11, 12, 13, 14, 15, 16, 17, 18, 19, 20, 21, 22, 23, 24, 25, 26, 27, 28, 29, 30, 31, 32, 33, 34, 35, 36, 37, 38, 39, 40, 41, 42, 43, 44, 45, 46, 47, 48, 49, 50, 51, 52] [0, 1, 2, 3, 4, 5, 6, 52, 7, 8, 9, 10, 11, 12, 13, 14, 15, 16, 17, 18, 19, 20, 21, 22, 23, 24, 25, 26, 27, 28, 29, 30, 31, 32, 33, 34, 35, 36, 37, 38, 39, 40, 41, 42, 43, 44, 45, 46, 47, 48, 49, 50, 51] rfl rfl rfl rfl (by decide) rfl rfl (hi9 ▸ gs_RX2_putAt) np_putAt hR hroom rfl hsum d hp kk
theorem bn_ref6 {Γ : Ctx} {cc : ByteArray} {nL k n pc pc' : Nat} {own : String} {R0 : Room} {lv : List (Nat × Value)} {st : List Value} {index : Nat} {a : Nat → Nat → Nat} {S : BO} (B : CX Γ cc nL own R0) (hw : Cond.fieldLink own index "DictationBelt$State" "losses" "[I" ∈ GW) (d : decode cc pc = .ok (.getfield index, 3)) (hp : pc + 3 = pc') (kk : X Γ nL k n pc' lv (.ref (a 1 6) :: st) (wB Γ.cs a S)) : X Γ nL k n pc lv (.ref (a 1 0) :: st) (wB Γ.cs a S) :=
  x_getf B 2 6 rfl rfl inlX1 (by decide) hw rfl d hp kk
theorem bn_ald6 {Γ : Ctx} {cc : ByteArray} {nL k n pc pc' : Nat} {own : String} {R0 : Room} {lv : List (Nat × Value)} {st : List Value} {index : Nat} {a : Nat → Nat → Nat} {S : BO} {i : Int32} (B : CX Γ cc nL own R0) (hi : vp_in i 10) (d : decode cc pc = .ok (.iaload, 1)) (hp : pc + 1 = pc') (kk : X Γ nL k n pc' lv (.int (S.2.1.2 6 i.toNatClampNeg) :: st) (wB Γ.cs a S)) : X Γ nL k n pc lv (.int i :: .ref (a 1 6) :: st) (wB Γ.cs a S) :=
  x_iald B 8 rfl hi d hp kk
theorem bn_ast6 {Γ : Ctx} {cc : ByteArray} {nL k n pc pc' : Nat} {own : String} {R0 : Room} {lv : List (Nat × Value)} {st : List Value} {index : Nat} {a : Nat → Nat → Nat} {S : BO} {i v : Int32} (B : CX Γ cc nL own R0) (hi : vp_in i 10) (d : decode cc pc = .ok (.iastore, 1)) (hp : pc + 1 = pc') (kk : X Γ nL k n pc' lv st (wB Γ.cs a (S.1, (S.2.1.1, up2 S.2.1.2 6 (upd (S.2.1.2 6) i.toNatClampNeg v)), S.2.2))) : X Γ nL k n pc lv (.int v :: .int i :: .ref (a 1 6) :: st) (wB Γ.cs a S) :=
  x_iast B 8 rfl hi rfl d hp kk
theorem bn_vAt6 {Γ : Ctx} {cc : ByteArray} {nL k n pc pc' : Nat} {R0 : Room} {lv : List (Nat × Value)} {st : List Value} {index : Nat} {a : Nat → Nat → Nat} {S : BO} {i : Int32} (B : CX Γ cc nL RX2 R0) (hR : 1 ≤ R0.frames ∧ 21 ≤ R0.locals) (hroom : k ≤ R0.cells ∧ n ≤ R0.slots) (hsum : (st.map fun v => v.category).sum ≤ 8) (hi9 : index = gv_valueAt_idx) (d : decode cc pc = .ok (.invokestatic index, 3)) (hp : pc + 3 = pc') (kk : X Γ nL k n pc' lv (.int (vAt 10 (S.2.1.2 6) i) :: st) (wB Γ.cs a S)) : X Γ nL k n pc lv (.int i :: .ref (a 1 6) :: st) (wB Γ.cs a S) :=
  x_GSi (ws' := wB Γ.cs a S) (wr := (wB Γ.cs a S).eraseIdx 8) B [.ref (a 1 6), .int i] (c_valueAt _ _ _ 10 (by decide) (a 1 6) i (S.2.1.2 6)) [8] [0, 1, 2, 3, 4, 5, 6, 7, 9, 10, 11, 12, 13, 14, 15, 16, 17, 18, 19, 20, 21, 22, 23, 24, 25, 26, 27, 28, 29, 30, 31, 32, 33, 34, 35, 36, 37, 38, 39, 40, 41, 42, 43, 44, 45, 46, 47, 48, 49, 50, 51, 52] [0, 1, 2, 3, 4, 5, 6, 7, 52, 8, 9, 10, 11, 12, 13, 14, 15, 16, 17, 18, 19, 20, 21, 22, 23, 24, 25, 26, 27, 28, 29, 30, 31, 32, 33, 34, 35, 36, 37, 38, 39, 40, 41, 42, 43, 44, 45, 46, 47, 48, 49, 50, 51] rfl rfl rfl rfl (by decide) rfl rfl (hi9 ▸ gs_RX2_valueAt) np_valueAt hR hroom rfl hsum d hp kk
theorem bn_pAt6 {Γ : Ctx} {cc : ByteArray} {nL k n pc pc' : Nat} {R0 : Room} {lv : List (Nat × Value)} {st : List Value} {index : Nat} {a : Nat → Nat → Nat} {S : BO} {i v : Int32} (B : CX Γ cc nL RX2 R0) (hR : 1 ≤ R0.frames ∧ 22 ≤ R0.locals) (hroom : k ≤ R0.cells ∧ n ≤ R0.slots) (hsum : (st.map fun v => v.category).sum ≤ 8) (hi9 : index = gv_putAt_idx) (d : decode cc pc = .ok (.invokestatic index, 3)) (hp : pc + 3 = pc') (kk : X Γ nL k n pc' lv st (wB Γ.cs a (S.1, (S.2.1.1, up2 S.2.1.2 6 (pAt 10 (S.2.1.2 6) i v)), S.2.2))) : X Γ nL k n pc lv (.int v :: .int i :: .ref (a 1 6) :: st) (wB Γ.cs a S) :=
  x_GSv (ws' := wB Γ.cs a (S.1, (S.2.1.1, up2 S.2.1.2 6 (pAt 10 (S.2.1.2 6) i v)), S.2.2)) (wr := (wB Γ.cs a S).eraseIdx 8) B [.ref (a 1 6), .int i, .int v] (c_putAt _ _ _ 10 (by decide) (a 1 6) i v (S.2.1.2 6)) [8] [0, 1, 2, 3, 4, 5, 6, 7, 9, 10, 11, 12, 13, 14, 15, 16, 17, 18, 19, 20, 21, 22, 23, 24, 25, 26, 27, 28, 29, 30, 31, 32, 33, 34, 35, 36, 37, 38, 39, 40, 41, 42, 43, 44, 45, 46, 47, 48, 49, 50, 51, 52] [0, 1, 2, 3, 4, 5, 6, 7, 52, 8, 9, 10, 11, 12, 13, 14, 15, 16, 17, 18, 19, 20, 21, 22, 23, 24, 25, 26, 27, 28, 29, 30, 31, 32, 33, 34, 35, 36, 37, 38, 39, 40, 41, 42, 43, 44, 45, 46, 47, 48, 49, 50, 51] rfl rfl rfl rfl (by decide) rfl rfl (hi9 ▸ gs_RX2_putAt) np_putAt hR hroom rfl hsum d hp kk
theorem bt_get1 {Γ : Ctx} {cc : ByteArray} {nL k n pc pc' : Nat} {own : String} {R0 : Room} {lv : List (Nat × Value)} {st : List Value} {index : Nat} {a : Nat → Nat → Nat} {S : BO} (B : CX Γ cc nL own R0) (hw : Cond.fieldLink own index "DictationBelt$OrderText" "length" "I" ∈ GW) (d : decode cc pc = .ok (.getfield index, 3)) (hp : pc + 3 = pc') (kk : X Γ nL k n pc' lv (.int (S.2.2.2.1 1) :: st) (wB Γ.cs a S)) : X Γ nL k n pc lv (.ref (a 2 0) :: st) (wB Γ.cs a S) :=
  x_getf B 9 1 rfl rfl inlX0 (by decide) hw rfl d hp kk
theorem bt_put1 {Γ : Ctx} {cc : ByteArray} {nL k n pc pc' : Nat} {own : String} {R0 : Room} {lv : List (Nat × Value)} {st : List Value} {index : Nat} {a : Nat → Nat → Nat} {S : BO} {v : Int32} (B : CX Γ cc nL own R0) (hw : Cond.fieldLink own index "DictationBelt$OrderText" "length" "I" ∈ GW) (d : decode cc pc = .ok (.putfield index, 3)) (hp : pc + 3 = pc') (kk : X Γ nL k n pc' lv st (wB Γ.cs a (S.1, S.2.1, S.2.2.1, (upd S.2.2.2.1 1 v, S.2.2.2.2)))) : X Γ nL k n pc lv (.int v :: .ref (a 2 0) :: st) (wB Γ.cs a S) :=
  x_putf B 9 1 tyX0 tyX0_ok nmX0 rfl rfl inlX0 (by decide) hw rfl rfl rfl (Nat.le_of_ble_eq_true rfl) rfl d hp kk
theorem bt_ref0 {Γ : Ctx} {cc : ByteArray} {nL k n pc pc' : Nat} {own : String} {R0 : Room} {lv : List (Nat × Value)} {st : List Value} {index : Nat} {a : Nat → Nat → Nat} {S : BO} (B : CX Γ cc nL own R0) (hw : Cond.fieldLink own index "DictationBelt$OrderText" "codes" "[I" ∈ GW) (d : decode cc pc = .ok (.getfield index, 3)) (hp : pc + 3 = pc') (kk : X Γ nL k n pc' lv (.ref (a 2 1) :: st) (wB Γ.cs a S)) : X Γ nL k n pc lv (.ref (a 2 0) :: st) (wB Γ.cs a S) :=
  x_getf B 9 0 rfl rfl inlX0 (by decide) hw rfl d hp kk
theorem bt_ald0 {Γ : Ctx} {cc : ByteArray} {nL k n pc pc' : Nat} {own : String} {R0 : Room} {lv : List (Nat × Value)} {st : List Value} {index : Nat} {a : Nat → Nat → Nat} {S : BO} {i : Int32} (B : CX Γ cc nL own R0) (hi : vp_in i 60) (d : decode cc pc = .ok (.iaload, 1)) (hp : pc + 1 = pc') (kk : X Γ nL k n pc' lv (.int (S.2.2.2.2 0 i.toNatClampNeg) :: st) (wB Γ.cs a S)) : X Γ nL k n pc lv (.int i :: .ref (a 2 1) :: st) (wB Γ.cs a S) :=
  x_iald B 10 rfl hi d hp kk
theorem bt_ast0 {Γ : Ctx} {cc : ByteArray} {nL k n pc pc' : Nat} {own : String} {R0 : Room} {lv : List (Nat × Value)} {st : List Value} {index : Nat} {a : Nat → Nat → Nat} {S : BO} {i v : Int32} (B : CX Γ cc nL own R0) (hi : vp_in i 60) (d : decode cc pc = .ok (.iastore, 1)) (hp : pc + 1 = pc') (kk : X Γ nL k n pc' lv st (wB Γ.cs a (S.1, S.2.1, S.2.2.1, (S.2.2.2.1, up2 S.2.2.2.2 0 (upd (S.2.2.2.2 0) i.toNatClampNeg v))))) : X Γ nL k n pc lv (.int v :: .int i :: .ref (a 2 1) :: st) (wB Γ.cs a S) :=
  x_iast B 10 rfl hi rfl d hp kk
theorem bt_vAt0 {Γ : Ctx} {cc : ByteArray} {nL k n pc pc' : Nat} {R0 : Room} {lv : List (Nat × Value)} {st : List Value} {index : Nat} {a : Nat → Nat → Nat} {S : BO} {i : Int32} (B : CX Γ cc nL RX2 R0) (hR : 1 ≤ R0.frames ∧ 21 ≤ R0.locals) (hroom : k ≤ R0.cells ∧ n ≤ R0.slots) (hsum : (st.map fun v => v.category).sum ≤ 8) (hi9 : index = gv_valueAt_idx) (d : decode cc pc = .ok (.invokestatic index, 3)) (hp : pc + 3 = pc') (kk : X Γ nL k n pc' lv (.int (vAt 60 (S.2.2.2.2 0) i) :: st) (wB Γ.cs a S)) : X Γ nL k n pc lv (.int i :: .ref (a 2 1) :: st) (wB Γ.cs a S) :=
  x_GSi (ws' := wB Γ.cs a S) (wr := (wB Γ.cs a S).eraseIdx 10) B [.ref (a 2 1), .int i] (c_valueAt _ _ _ 60 (by decide) (a 2 1) i (S.2.2.2.2 0)) [10] [0, 1, 2, 3, 4, 5, 6, 7, 8, 9, 11, 12, 13, 14, 15, 16, 17, 18, 19, 20, 21, 22, 23, 24, 25, 26, 27, 28, 29, 30, 31, 32, 33, 34, 35, 36, 37, 38, 39, 40, 41, 42, 43, 44, 45, 46, 47, 48, 49, 50, 51, 52] [0, 1, 2, 3, 4, 5, 6, 7, 8, 9, 52, 10, 11, 12, 13, 14, 15, 16, 17, 18, 19, 20, 21, 22, 23, 24, 25, 26, 27, 28, 29, 30, 31, 32, 33, 34, 35, 36, 37, 38, 39, 40, 41, 42, 43, 44, 45, 46, 47, 48, 49, 50, 51] rfl rfl rfl rfl (by decide) rfl rfl (hi9 ▸ gs_RX2_valueAt) np_valueAt hR hroom rfl hsum d hp kk
theorem bt_pAt0 {Γ : Ctx} {cc : ByteArray} {nL k n pc pc' : Nat} {R0 : Room} {lv : List (Nat × Value)} {st : List Value} {index : Nat} {a : Nat → Nat → Nat} {S : BO} {i v : Int32} (B : CX Γ cc nL RX2 R0) (hR : 1 ≤ R0.frames ∧ 22 ≤ R0.locals) (hroom : k ≤ R0.cells ∧ n ≤ R0.slots) (hsum : (st.map fun v => v.category).sum ≤ 8) (hi9 : index = gv_putAt_idx) (d : decode cc pc = .ok (.invokestatic index, 3)) (hp : pc + 3 = pc') (kk : X Γ nL k n pc' lv st (wB Γ.cs a (S.1, S.2.1, S.2.2.1, (S.2.2.2.1, up2 S.2.2.2.2 0 (pAt 60 (S.2.2.2.2 0) i v))))) : X Γ nL k n pc lv (.int v :: .int i :: .ref (a 2 1) :: st) (wB Γ.cs a S) :=
  x_GSv (ws' := wB Γ.cs a (S.1, S.2.1, S.2.2.1, (S.2.2.2.1, up2 S.2.2.2.2 0 (pAt 60 (S.2.2.2.2 0) i v)))) (wr := (wB Γ.cs a S).eraseIdx 10) B [.ref (a 2 1), .int i, .int v] (c_putAt _ _ _ 60 (by decide) (a 2 1) i v (S.2.2.2.2 0)) [10] [0, 1, 2, 3, 4, 5, 6, 7, 8, 9, 11, 12, 13, 14, 15, 16, 17, 18, 19, 20, 21, 22, 23, 24, 25, 26, 27, 28, 29, 30, 31, 32, 33, 34, 35, 36, 37, 38, 39, 40, 41, 42, 43, 44, 45, 46, 47, 48, 49, 50, 51, 52] [0, 1, 2, 3, 4, 5, 6, 7, 8, 9, 52, 10, 11, 12, 13, 14, 15, 16, 17, 18, 19, 20, 21, 22, 23, 24, 25, 26, 27, 28, 29, 30, 31, 32, 33, 34, 35, 36, 37, 38, 39, 40, 41, 42, 43, 44, 45, 46, 47, 48, 49, 50, 51] rfl rfl rfl rfl (by decide) rfl rfl (hi9 ▸ gs_RX2_putAt) np_putAt hR hroom rfl hsum d hp kk
end
section
theorem dX0_init_0 : decode cX0_init 0 = .ok (.aload_n 0, 1) := by decide +kernel
theorem dX0_init_1 : decode cX0_init 1 = .ok (.invokespecial 3, 3) := by decide +kernel
theorem dX0_init_4 : decode cX0_init 4 = .ok (.aload_n 0, 1) := by decide +kernel
theorem dX0_init_5 : decode cX0_init 5 = .ok (.bipush 60, 2) := by decide +kernel
theorem dX0_init_7 : decode cX0_init 7 = .ok (.newarray .int, 2) := by decide +kernel
theorem dX0_init_9 : decode cX0_init 9 = .ok (.putfield 9, 3) := by decide +kernel
theorem dX0_init_12 : decode cX0_init 12 = .ok (.aload_n 0, 1) := by decide +kernel
theorem dX0_init_13 : decode cX0_init 13 = .ok (.iconst 0, 1) := by decide +kernel
theorem dX0_init_14 : decode cX0_init 14 = .ok (.putfield 15, 3) := by decide +kernel
theorem dX0_init_17 : decode cX0_init 17 = .ok (.return_, 1) := by decide +kernel
theorem dX0_add_0 : decode cX0_add 0 = .ok (.aload_n 0, 1) := by decide +kernel
theorem dX0_add_1 : decode cX0_add 1 = .ok (.getfield 9, 3) := by decide +kernel
theorem dX0_add_4 : decode cX0_add 4 = .ok (.aload_n 0, 1) := by decide +kernel
theorem dX0_add_5 : decode cX0_add 5 = .ok (.getfield 15, 3) := by decide +kernel
theorem dX0_add_8 : decode cX0_add 8 = .ok (.iload_n 1, 1) := by decide +kernel
theorem dX0_add_9 : decode cX0_add 9 = .ok (.invokestatic 19, 3) := by decide +kernel
theorem dX0_add_12 : decode cX0_add 12 = .ok (.aload_n 0, 1) := by decide +kernel
theorem dX0_add_13 : decode cX0_add 13 = .ok (.dup, 1) := by decide +kernel
theorem dX0_add_14 : decode cX0_add 14 = .ok (.getfield 15, 3) := by decide +kernel
theorem dX0_add_17 : decode cX0_add 17 = .ok (.iconst 1, 1) := by decide +kernel
theorem dX0_add_18 : decode cX0_add 18 = .ok (.iadd, 1) := by decide +kernel
theorem dX0_add_19 : decode cX0_add 19 = .ok (.putfield 15, 3) := by decide +kernel
theorem dX0_add_22 : decode cX0_add 22 = .ok (.return_, 1) := by decide +kernel
theorem dX0_errorIndex_0 : decode cX0_errorIndex 0 = .ok (.iconst 0, 1) := by decide +kernel
theorem dX0_errorIndex_1 : decode cX0_errorIndex 1 = .ok (.istore_n 1, 1) := by decide +kernel
theorem dX0_errorIndex_2 : decode cX0_errorIndex 2 = .ok (.iconst 0, 1) := by decide +kernel
theorem dX0_errorIndex_3 : decode cX0_errorIndex 3 = .ok (.istore_n 2, 1) := by decide +kernel
theorem dX0_errorIndex_4 : decode cX0_errorIndex 4 = .ok (.iload_n 2, 1) := by decide +kernel
theorem dX0_errorIndex_5 : decode cX0_errorIndex 5 = .ok (.aload_n 0, 1) := by decide +kernel
theorem dX0_errorIndex_6 : decode cX0_errorIndex 6 = .ok (.getfield 15, 3) := by decide +kernel
theorem dX0_errorIndex_9 : decode cX0_errorIndex 9 = .ok (.if_icmp .ge 29, 3) := by decide +kernel
theorem dX0_errorIndex_12 : decode cX0_errorIndex 12 = .ok (.iload_n 1, 1) := by decide +kernel
theorem dX0_errorIndex_13 : decode cX0_errorIndex 13 = .ok (.aload_n 0, 1) := by decide +kernel
theorem dX0_errorIndex_14 : decode cX0_errorIndex 14 = .ok (.getfield 9, 3) := by decide +kernel
theorem dX0_errorIndex_17 : decode cX0_errorIndex 17 = .ok (.iload_n 2, 1) := by decide +kernel
theorem dX0_errorIndex_18 : decode cX0_errorIndex 18 = .ok (.invokestatic 23, 3) := by decide +kernel
theorem dX0_errorIndex_21 : decode cX0_errorIndex 21 = .ok (.invokestatic 27, 3) := by decide +kernel
theorem dX0_errorIndex_24 : decode cX0_errorIndex 24 = .ok (.istore_n 1, 1) := by decide +kernel
theorem dX0_errorIndex_25 : decode cX0_errorIndex 25 = .ok (.iload_n 1, 1) := by decide +kernel
theorem dX0_errorIndex_26 : decode cX0_errorIndex 26 = .ok (.iconst (-1), 1) := by decide +kernel
theorem dX0_errorIndex_27 : decode cX0_errorIndex 27 = .ok (.if_icmp .ne 5, 3) := by decide +kernel
theorem dX0_errorIndex_30 : decode cX0_errorIndex 30 = .ok (.iload_n 2, 1) := by decide +kernel
theorem dX0_errorIndex_31 : decode cX0_errorIndex 31 = .ok (.ireturn, 1) := by decide +kernel
theorem dX0_errorIndex_32 : decode cX0_errorIndex 32 = .ok (.iinc 2 1, 3) := by decide +kernel
theorem dX0_errorIndex_35 : decode cX0_errorIndex 35 = .ok (.goto (-31), 3) := by decide +kernel
theorem dX0_errorIndex_38 : decode cX0_errorIndex 38 = .ok (.aload_n 0, 1) := by decide +kernel
theorem dX0_errorIndex_39 : decode cX0_errorIndex 39 = .ok (.getfield 15, 3) := by decide +kernel
theorem dX0_errorIndex_42 : decode cX0_errorIndex 42 = .ok (.ireturn, 1) := by decide +kernel
theorem dX0_isComplete_0 : decode cX0_isComplete 0 = .ok (.iconst 0, 1) := by decide +kernel
theorem dX0_isComplete_1 : decode cX0_isComplete 1 = .ok (.istore_n 1, 1) := by decide +kernel
theorem dX0_isComplete_2 : decode cX0_isComplete 2 = .ok (.iconst 0, 1) := by decide +kernel
theorem dX0_isComplete_3 : decode cX0_isComplete 3 = .ok (.istore_n 2, 1) := by decide +kernel
theorem dX0_isComplete_4 : decode cX0_isComplete 4 = .ok (.iload_n 2, 1) := by decide +kernel
theorem dX0_isComplete_5 : decode cX0_isComplete 5 = .ok (.aload_n 0, 1) := by decide +kernel
theorem dX0_isComplete_6 : decode cX0_isComplete 6 = .ok (.getfield 15, 3) := by decide +kernel
theorem dX0_isComplete_9 : decode cX0_isComplete 9 = .ok (.if_icmp .ge 22, 3) := by decide +kernel
theorem dX0_isComplete_12 : decode cX0_isComplete 12 = .ok (.iload_n 1, 1) := by decide +kernel
theorem dX0_isComplete_13 : decode cX0_isComplete 13 = .ok (.aload_n 0, 1) := by decide +kernel
theorem dX0_isComplete_14 : decode cX0_isComplete 14 = .ok (.getfield 9, 3) := by decide +kernel
theorem dX0_isComplete_17 : decode cX0_isComplete 17 = .ok (.iload_n 2, 1) := by decide +kernel
theorem dX0_isComplete_18 : decode cX0_isComplete 18 = .ok (.invokestatic 23, 3) := by decide +kernel
theorem dX0_isComplete_21 : decode cX0_isComplete 21 = .ok (.invokestatic 27, 3) := by decide +kernel
theorem dX0_isComplete_24 : decode cX0_isComplete 24 = .ok (.istore_n 1, 1) := by decide +kernel
theorem dX0_isComplete_25 : decode cX0_isComplete 25 = .ok (.iinc 2 1, 3) := by decide +kernel
theorem dX0_isComplete_28 : decode cX0_isComplete 28 = .ok (.goto (-24), 3) := by decide +kernel
theorem dX0_isComplete_31 : decode cX0_isComplete 31 = .ok (.iload_n 1, 1) := by decide +kernel
theorem dX0_isComplete_32 : decode cX0_isComplete 32 = .ok (.iconst 1, 1) := by decide +kernel
theorem dX0_isComplete_33 : decode cX0_isComplete 33 = .ok (.if_icmp .eq 8, 3) := by decide +kernel
theorem dX0_isComplete_36 : decode cX0_isComplete 36 = .ok (.iload_n 1, 1) := by decide +kernel
theorem dX0_isComplete_37 : decode cX0_isComplete 37 = .ok (.iconst 3, 1) := by decide +kernel
theorem dX0_isComplete_38 : decode cX0_isComplete 38 = .ok (.if_icmp .ne 7, 3) := by decide +kernel
theorem dX0_isComplete_41 : decode cX0_isComplete 41 = .ok (.iconst 1, 1) := by decide +kernel
theorem dX0_isComplete_42 : decode cX0_isComplete 42 = .ok (.goto 4, 3) := by decide +kernel
theorem dX0_isComplete_45 : decode cX0_isComplete 45 = .ok (.iconst 0, 1) := by decide +kernel
theorem dX0_isComplete_46 : decode cX0_isComplete 46 = .ok (.ireturn, 1) := by decide +kernel
theorem dX0_stageAfter_0 : decode cX0_stageAfter 0 = .ok (.iload_n 0, 1) := by decide +kernel
theorem dX0_stageAfter_1 : decode cX0_stageAfter 1 = .ok (.tableswitch 233 0 9 #[55, 60, 72, 99, 126, 131, 159, 187, 199, 216], 55) := by decide +kernel
theorem dX0_stageAfter_56 : decode cX0_stageAfter 56 = .ok (.iload_n 1, 1) := by decide +kernel
theorem dX0_stageAfter_57 : decode cX0_stageAfter 57 = .ok (.invokestatic 31, 3) := by decide +kernel
theorem dX0_stageAfter_60 : decode cX0_stageAfter 60 = .ok (.ireturn, 1) := by decide +kernel
theorem dX0_stageAfter_61 : decode cX0_stageAfter 61 = .ok (.iload_n 1, 1) := by decide +kernel
theorem dX0_stageAfter_62 : decode cX0_stageAfter 62 = .ok (.bipush 59, 2) := by decide +kernel
theorem dX0_stageAfter_64 : decode cX0_stageAfter 64 = .ok (.if_icmp .ne 7, 3) := by decide +kernel
theorem dX0_stageAfter_67 : decode cX0_stageAfter 67 = .ok (.iconst 0, 1) := by decide +kernel
theorem dX0_stageAfter_68 : decode cX0_stageAfter 68 = .ok (.goto 4, 3) := by decide +kernel
theorem dX0_stageAfter_71 : decode cX0_stageAfter 71 = .ok (.iconst (-1), 1) := by decide +kernel
theorem dX0_stageAfter_72 : decode cX0_stageAfter 72 = .ok (.ireturn, 1) := by decide +kernel
theorem dX0_stageAfter_73 : decode cX0_stageAfter 73 = .ok (.iload_n 1, 1) := by decide +kernel
theorem dX0_stageAfter_74 : decode cX0_stageAfter 74 = .ok (.bipush 48, 2) := by decide +kernel
theorem dX0_stageAfter_76 : decode cX0_stageAfter 76 = .ok (.if_icmp .ne 7, 3) := by decide +kernel
theorem dX0_stageAfter_79 : decode cX0_stageAfter 79 = .ok (.iconst 1, 1) := by decide +kernel
theorem dX0_stageAfter_80 : decode cX0_stageAfter 80 = .ok (.goto 19, 3) := by decide +kernel
theorem dX0_stageAfter_83 : decode cX0_stageAfter 83 = .ok (.iload_n 1, 1) := by decide +kernel
theorem dX0_stageAfter_84 : decode cX0_stageAfter 84 = .ok (.bipush 49, 2) := by decide +kernel
theorem dX0_stageAfter_86 : decode cX0_stageAfter 86 = .ok (.bipush 57, 2) := by decide +kernel
theorem dX0_stageAfter_88 : decode cX0_stageAfter 88 = .ok (.invokestatic 35, 3) := by decide +kernel
theorem dX0_stageAfter_91 : decode cX0_stageAfter 91 = .ok (.ifCond .eq 7, 3) := by decide +kernel
theorem dX0_stageAfter_94 : decode cX0_stageAfter 94 = .ok (.iconst 3, 1) := by decide +kernel
theorem dX0_stageAfter_95 : decode cX0_stageAfter 95 = .ok (.goto 4, 3) := by decide +kernel
theorem dX0_stageAfter_98 : decode cX0_stageAfter 98 = .ok (.iconst (-1), 1) := by decide +kernel
theorem dX0_stageAfter_99 : decode cX0_stageAfter 99 = .ok (.ireturn, 1) := by decide +kernel
theorem dX0_stageAfter_100 : decode cX0_stageAfter 100 = .ok (.iload_n 1, 1) := by decide +kernel
theorem dX0_stageAfter_101 : decode cX0_stageAfter 101 = .ok (.bipush 59, 2) := by decide +kernel
theorem dX0_stageAfter_103 : decode cX0_stageAfter 103 = .ok (.if_icmp .ne 7, 3) := by decide +kernel
theorem dX0_stageAfter_106 : decode cX0_stageAfter 106 = .ok (.iconst 0, 1) := by decide +kernel
theorem dX0_stageAfter_107 : decode cX0_stageAfter 107 = .ok (.goto 19, 3) := by decide +kernel
theorem dX0_stageAfter_110 : decode cX0_stageAfter 110 = .ok (.iload_n 1, 1) := by decide +kernel
theorem dX0_stageAfter_111 : decode cX0_stageAfter 111 = .ok (.bipush 48, 2) := by decide +kernel
theorem dX0_stageAfter_113 : decode cX0_stageAfter 113 = .ok (.bipush 57, 2) := by decide +kernel
theorem dX0_stageAfter_115 : decode cX0_stageAfter 115 = .ok (.invokestatic 35, 3) := by decide +kernel
theorem dX0_stageAfter_118 : decode cX0_stageAfter 118 = .ok (.ifCond .eq 7, 3) := by decide +kernel
theorem dX0_stageAfter_121 : decode cX0_stageAfter 121 = .ok (.iconst 1, 1) := by decide +kernel
theorem dX0_stageAfter_122 : decode cX0_stageAfter 122 = .ok (.goto 4, 3) := by decide +kernel
theorem dX0_stageAfter_125 : decode cX0_stageAfter 125 = .ok (.iconst (-1), 1) := by decide +kernel
theorem dX0_stageAfter_126 : decode cX0_stageAfter 126 = .ok (.ireturn, 1) := by decide +kernel
theorem dX0_stageAfter_127 : decode cX0_stageAfter 127 = .ok (.iload_n 1, 1) := by decide +kernel
theorem dX0_stageAfter_128 : decode cX0_stageAfter 128 = .ok (.invokestatic 39, 3) := by decide +kernel
theorem dX0_stageAfter_131 : decode cX0_stageAfter 131 = .ok (.ireturn, 1) := by decide +kernel
theorem dX0_stageAfter_132 : decode cX0_stageAfter 132 = .ok (.iload_n 1, 1) := by decide +kernel
theorem dX0_stageAfter_133 : decode cX0_stageAfter 133 = .ok (.bipush 61, 2) := by decide +kernel
theorem dX0_stageAfter_135 : decode cX0_stageAfter 135 = .ok (.if_icmp .ne 7, 3) := by decide +kernel
theorem dX0_stageAfter_138 : decode cX0_stageAfter 138 = .ok (.iconst 2, 1) := by decide +kernel
theorem dX0_stageAfter_139 : decode cX0_stageAfter 139 = .ok (.goto 20, 3) := by decide +kernel
theorem dX0_stageAfter_142 : decode cX0_stageAfter 142 = .ok (.iload_n 1, 1) := by decide +kernel
theorem dX0_stageAfter_143 : decode cX0_stageAfter 143 = .ok (.bipush 48, 2) := by decide +kernel
theorem dX0_stageAfter_145 : decode cX0_stageAfter 145 = .ok (.bipush 57, 2) := by decide +kernel
theorem dX0_stageAfter_147 : decode cX0_stageAfter 147 = .ok (.invokestatic 35, 3) := by decide +kernel
theorem dX0_stageAfter_150 : decode cX0_stageAfter 150 = .ok (.ifCond .eq 8, 3) := by decide +kernel
theorem dX0_stageAfter_153 : decode cX0_stageAfter 153 = .ok (.bipush 7, 2) := by decide +kernel
theorem dX0_stageAfter_155 : decode cX0_stageAfter 155 = .ok (.goto 4, 3) := by decide +kernel
theorem dX0_stageAfter_158 : decode cX0_stageAfter 158 = .ok (.iconst (-1), 1) := by decide +kernel
theorem dX0_stageAfter_159 : decode cX0_stageAfter 159 = .ok (.ireturn, 1) := by decide +kernel
theorem dX0_stageAfter_160 : decode cX0_stageAfter 160 = .ok (.iload_n 1, 1) := by decide +kernel
theorem dX0_stageAfter_161 : decode cX0_stageAfter 161 = .ok (.bipush 61, 2) := by decide +kernel
theorem dX0_stageAfter_163 : decode cX0_stageAfter 163 = .ok (.if_icmp .ne 7, 3) := by decide +kernel
theorem dX0_stageAfter_166 : decode cX0_stageAfter 166 = .ok (.iconst 2, 1) := by decide +kernel
theorem dX0_stageAfter_167 : decode cX0_stageAfter 167 = .ok (.goto 20, 3) := by decide +kernel
theorem dX0_stageAfter_170 : decode cX0_stageAfter 170 = .ok (.iload_n 1, 1) := by decide +kernel
theorem dX0_stageAfter_171 : decode cX0_stageAfter 171 = .ok (.bipush 48, 2) := by decide +kernel
theorem dX0_stageAfter_173 : decode cX0_stageAfter 173 = .ok (.bipush 50, 2) := by decide +kernel
theorem dX0_stageAfter_175 : decode cX0_stageAfter 175 = .ok (.invokestatic 35, 3) := by decide +kernel
theorem dX0_stageAfter_178 : decode cX0_stageAfter 178 = .ok (.ifCond .eq 8, 3) := by decide +kernel
theorem dX0_stageAfter_181 : decode cX0_stageAfter 181 = .ok (.bipush 7, 2) := by decide +kernel
theorem dX0_stageAfter_183 : decode cX0_stageAfter 183 = .ok (.goto 4, 3) := by decide +kernel
theorem dX0_stageAfter_186 : decode cX0_stageAfter 186 = .ok (.iconst (-1), 1) := by decide +kernel
theorem dX0_stageAfter_187 : decode cX0_stageAfter 187 = .ok (.ireturn, 1) := by decide +kernel
theorem dX0_stageAfter_188 : decode cX0_stageAfter 188 = .ok (.iload_n 1, 1) := by decide +kernel
theorem dX0_stageAfter_189 : decode cX0_stageAfter 189 = .ok (.bipush 61, 2) := by decide +kernel
theorem dX0_stageAfter_191 : decode cX0_stageAfter 191 = .ok (.if_icmp .ne 7, 3) := by decide +kernel
theorem dX0_stageAfter_194 : decode cX0_stageAfter 194 = .ok (.iconst 2, 1) := by decide +kernel
theorem dX0_stageAfter_195 : decode cX0_stageAfter 195 = .ok (.goto 4, 3) := by decide +kernel
theorem dX0_stageAfter_198 : decode cX0_stageAfter 198 = .ok (.iconst (-1), 1) := by decide +kernel
theorem dX0_stageAfter_199 : decode cX0_stageAfter 199 = .ok (.ireturn, 1) := by decide +kernel
theorem dX0_stageAfter_200 : decode cX0_stageAfter 200 = .ok (.iload_n 1, 1) := by decide +kernel
theorem dX0_stageAfter_201 : decode cX0_stageAfter 201 = .ok (.bipush 48, 2) := by decide +kernel
theorem dX0_stageAfter_203 : decode cX0_stageAfter 203 = .ok (.bipush 57, 2) := by decide +kernel
theorem dX0_stageAfter_205 : decode cX0_stageAfter 205 = .ok (.invokestatic 35, 3) := by decide +kernel
theorem dX0_stageAfter_208 : decode cX0_stageAfter 208 = .ok (.ifCond .eq 7, 3) := by decide +kernel
theorem dX0_stageAfter_211 : decode cX0_stageAfter 211 = .ok (.iconst 1, 1) := by decide +kernel
theorem dX0_stageAfter_212 : decode cX0_stageAfter 212 = .ok (.goto 4, 3) := by decide +kernel
theorem dX0_stageAfter_215 : decode cX0_stageAfter 215 = .ok (.iconst (-1), 1) := by decide +kernel
theorem dX0_stageAfter_216 : decode cX0_stageAfter 216 = .ok (.ireturn, 1) := by decide +kernel
theorem dX0_stageAfter_217 : decode cX0_stageAfter 217 = .ok (.iload_n 1, 1) := by decide +kernel
theorem dX0_stageAfter_218 : decode cX0_stageAfter 218 = .ok (.bipush 49, 2) := by decide +kernel
theorem dX0_stageAfter_220 : decode cX0_stageAfter 220 = .ok (.bipush 57, 2) := by decide +kernel
theorem dX0_stageAfter_222 : decode cX0_stageAfter 222 = .ok (.invokestatic 35, 3) := by decide +kernel
theorem dX0_stageAfter_225 : decode cX0_stageAfter 225 = .ok (.ifCond .eq 7, 3) := by decide +kernel
theorem dX0_stageAfter_228 : decode cX0_stageAfter 228 = .ok (.iconst 1, 1) := by decide +kernel
theorem dX0_stageAfter_229 : decode cX0_stageAfter 229 = .ok (.goto 4, 3) := by decide +kernel
theorem dX0_stageAfter_232 : decode cX0_stageAfter 232 = .ok (.iconst (-1), 1) := by decide +kernel
theorem dX0_stageAfter_233 : decode cX0_stageAfter 233 = .ok (.ireturn, 1) := by decide +kernel
theorem dX0_stageAfter_234 : decode cX0_stageAfter 234 = .ok (.iconst (-1), 1) := by decide +kernel
theorem dX0_stageAfter_235 : decode cX0_stageAfter 235 = .ok (.ireturn, 1) := by decide +kernel
theorem dX0_stageAfterLetter_0 : decode cX0_stageAfterLetter 0 = .ok (.iload_n 0, 1) := by decide +kernel
theorem dX0_stageAfterLetter_1 : decode cX0_stageAfterLetter 1 = .ok (.tableswitch 107 98 117 #[95, 107, 107, 101, 101, 101, 95, 107, 107, 104, 107, 107, 107, 107, 95, 107, 99, 97, 107, 101], 95) := by decide +kernel
theorem dX0_stageAfterLetter_96 : decode cX0_stageAfterLetter 96 = .ok (.iconst 1, 1) := by decide +kernel
theorem dX0_stageAfterLetter_97 : decode cX0_stageAfterLetter 97 = .ok (.ireturn, 1) := by decide +kernel
theorem dX0_stageAfterLetter_98 : decode cX0_stageAfterLetter 98 = .ok (.iconst 2, 1) := by decide +kernel
theorem dX0_stageAfterLetter_99 : decode cX0_stageAfterLetter 99 = .ok (.ireturn, 1) := by decide +kernel
theorem dX0_stageAfterLetter_100 : decode cX0_stageAfterLetter 100 = .ok (.iconst 4, 1) := by decide +kernel
theorem dX0_stageAfterLetter_101 : decode cX0_stageAfterLetter 101 = .ok (.ireturn, 1) := by decide +kernel
theorem dX0_stageAfterLetter_102 : decode cX0_stageAfterLetter 102 = .ok (.bipush 8, 2) := by decide +kernel
theorem dX0_stageAfterLetter_104 : decode cX0_stageAfterLetter 104 = .ok (.ireturn, 1) := by decide +kernel
theorem dX0_stageAfterLetter_105 : decode cX0_stageAfterLetter 105 = .ok (.bipush 9, 2) := by decide +kernel
theorem dX0_stageAfterLetter_107 : decode cX0_stageAfterLetter 107 = .ok (.ireturn, 1) := by decide +kernel
theorem dX0_stageAfterLetter_108 : decode cX0_stageAfterLetter 108 = .ok (.iconst (-1), 1) := by decide +kernel
theorem dX0_stageAfterLetter_109 : decode cX0_stageAfterLetter 109 = .ok (.ireturn, 1) := by decide +kernel
theorem dX0_stageAfterFirstOfTimes_0 : decode cX0_stageAfterFirstOfTimes 0 = .ok (.iload_n 0, 1) := by decide +kernel
theorem dX0_stageAfterFirstOfTimes_1 : decode cX0_stageAfterFirstOfTimes 1 = .ok (.bipush 49, 2) := by decide +kernel
theorem dX0_stageAfterFirstOfTimes_3 : decode cX0_stageAfterFirstOfTimes 3 = .ok (.bipush 50, 2) := by decide +kernel
theorem dX0_stageAfterFirstOfTimes_5 : decode cX0_stageAfterFirstOfTimes 5 = .ok (.invokestatic 35, 3) := by decide +kernel
theorem dX0_stageAfterFirstOfTimes_8 : decode cX0_stageAfterFirstOfTimes 8 = .ok (.ifCond .eq 5, 3) := by decide +kernel
theorem dX0_stageAfterFirstOfTimes_11 : decode cX0_stageAfterFirstOfTimes 11 = .ok (.iconst 5, 1) := by decide +kernel
theorem dX0_stageAfterFirstOfTimes_12 : decode cX0_stageAfterFirstOfTimes 12 = .ok (.ireturn, 1) := by decide +kernel
theorem dX0_stageAfterFirstOfTimes_13 : decode cX0_stageAfterFirstOfTimes 13 = .ok (.iload_n 0, 1) := by decide +kernel
theorem dX0_stageAfterFirstOfTimes_14 : decode cX0_stageAfterFirstOfTimes 14 = .ok (.bipush 51, 2) := by decide +kernel
theorem dX0_stageAfterFirstOfTimes_16 : decode cX0_stageAfterFirstOfTimes 16 = .ok (.if_icmp .ne 6, 3) := by decide +kernel
theorem dX0_stageAfterFirstOfTimes_19 : decode cX0_stageAfterFirstOfTimes 19 = .ok (.bipush 6, 2) := by decide +kernel
theorem dX0_stageAfterFirstOfTimes_21 : decode cX0_stageAfterFirstOfTimes 21 = .ok (.ireturn, 1) := by decide +kernel
theorem dX0_stageAfterFirstOfTimes_22 : decode cX0_stageAfterFirstOfTimes 22 = .ok (.iload_n 0, 1) := by decide +kernel
theorem dX0_stageAfterFirstOfTimes_23 : decode cX0_stageAfterFirstOfTimes 23 = .ok (.bipush 52, 2) := by decide +kernel
theorem dX0_stageAfterFirstOfTimes_25 : decode cX0_stageAfterFirstOfTimes 25 = .ok (.bipush 57, 2) := by decide +kernel
theorem dX0_stageAfterFirstOfTimes_27 : decode cX0_stageAfterFirstOfTimes 27 = .ok (.invokestatic 35, 3) := by decide +kernel
theorem dX0_stageAfterFirstOfTimes_30 : decode cX0_stageAfterFirstOfTimes 30 = .ok (.ifCond .eq 8, 3) := by decide +kernel
theorem dX0_stageAfterFirstOfTimes_33 : decode cX0_stageAfterFirstOfTimes 33 = .ok (.bipush 7, 2) := by decide +kernel
theorem dX0_stageAfterFirstOfTimes_35 : decode cX0_stageAfterFirstOfTimes 35 = .ok (.goto 4, 3) := by decide +kernel
theorem dX0_stageAfterFirstOfTimes_38 : decode cX0_stageAfterFirstOfTimes 38 = .ok (.iconst (-1), 1) := by decide +kernel
theorem dX0_stageAfterFirstOfTimes_39 : decode cX0_stageAfterFirstOfTimes 39 = .ok (.ireturn, 1) := by decide +kernel
theorem dX0_isIn_0 : decode cX0_isIn 0 = .ok (.iload_n 0, 1) := by decide +kernel
theorem dX0_isIn_1 : decode cX0_isIn 1 = .ok (.iload_n 1, 1) := by decide +kernel
theorem dX0_isIn_2 : decode cX0_isIn 2 = .ok (.if_icmp .lt 12, 3) := by decide +kernel
theorem dX0_isIn_5 : decode cX0_isIn 5 = .ok (.iload_n 0, 1) := by decide +kernel
theorem dX0_isIn_6 : decode cX0_isIn 6 = .ok (.iload_n 2, 1) := by decide +kernel
theorem dX0_isIn_7 : decode cX0_isIn 7 = .ok (.if_icmp .gt 7, 3) := by decide +kernel
theorem dX0_isIn_10 : decode cX0_isIn 10 = .ok (.iconst 1, 1) := by decide +kernel
theorem dX0_isIn_11 : decode cX0_isIn 11 = .ok (.goto 4, 3) := by decide +kernel
theorem dX0_isIn_14 : decode cX0_isIn 14 = .ok (.iconst 0, 1) := by decide +kernel
theorem dX0_isIn_15 : decode cX0_isIn 15 = .ok (.ireturn, 1) := by decide +kernel
end
section
theorem dX1_init_0 : decode cX1_init 0 = .ok (.aload_n 0, 1) := by decide +kernel
theorem dX1_init_1 : decode cX1_init 1 = .ok (.invokespecial 3, 3) := by decide +kernel
theorem dX1_init_4 : decode cX1_init 4 = .ok (.aload_n 0, 1) := by decide +kernel
theorem dX1_init_5 : decode cX1_init 5 = .ok (.bipush 32, 2) := by decide +kernel
theorem dX1_init_7 : decode cX1_init 7 = .ok (.newarray .int, 2) := by decide +kernel
theorem dX1_init_9 : decode cX1_init 9 = .ok (.putfield 9, 3) := by decide +kernel
theorem dX1_init_12 : decode cX1_init 12 = .ok (.iconst 0, 1) := by decide +kernel
theorem dX1_init_13 : decode cX1_init 13 = .ok (.istore_n 1, 1) := by decide +kernel
theorem dX1_init_14 : decode cX1_init 14 = .ok (.iload_n 1, 1) := by decide +kernel
theorem dX1_init_15 : decode cX1_init 15 = .ok (.bipush 32, 2) := by decide +kernel
theorem dX1_init_17 : decode cX1_init 17 = .ok (.if_icmp .ge 16, 3) := by decide +kernel
theorem dX1_init_20 : decode cX1_init 20 = .ok (.aload_n 0, 1) := by decide +kernel
theorem dX1_init_21 : decode cX1_init 21 = .ok (.getfield 9, 3) := by decide +kernel
theorem dX1_init_24 : decode cX1_init 24 = .ok (.iload_n 1, 1) := by decide +kernel
theorem dX1_init_25 : decode cX1_init 25 = .ok (.iconst (-1), 1) := by decide +kernel
theorem dX1_init_26 : decode cX1_init 26 = .ok (.iastore, 1) := by decide +kernel
theorem dX1_init_27 : decode cX1_init 27 = .ok (.iinc 1 1, 3) := by decide +kernel
theorem dX1_init_30 : decode cX1_init 30 = .ok (.goto (-16), 3) := by decide +kernel
theorem dX1_init_33 : decode cX1_init 33 = .ok (.aload_n 0, 1) := by decide +kernel
theorem dX1_init_34 : decode cX1_init 34 = .ok (.bipush 32, 2) := by decide +kernel
theorem dX1_init_36 : decode cX1_init 36 = .ok (.newarray .int, 2) := by decide +kernel
theorem dX1_init_38 : decode cX1_init 38 = .ok (.putfield 15, 3) := by decide +kernel
theorem dX1_init_41 : decode cX1_init 41 = .ok (.aload_n 0, 1) := by decide +kernel
theorem dX1_init_42 : decode cX1_init 42 = .ok (.bipush 32, 2) := by decide +kernel
theorem dX1_init_44 : decode cX1_init 44 = .ok (.newarray .int, 2) := by decide +kernel
theorem dX1_init_46 : decode cX1_init 46 = .ok (.putfield 18, 3) := by decide +kernel
theorem dX1_init_49 : decode cX1_init 49 = .ok (.aload_n 0, 1) := by decide +kernel
theorem dX1_init_50 : decode cX1_init 50 = .ok (.bipush 32, 2) := by decide +kernel
theorem dX1_init_52 : decode cX1_init 52 = .ok (.newarray .int, 2) := by decide +kernel
theorem dX1_init_54 : decode cX1_init 54 = .ok (.putfield 21, 3) := by decide +kernel
theorem dX1_init_57 : decode cX1_init 57 = .ok (.aload_n 0, 1) := by decide +kernel
theorem dX1_init_58 : decode cX1_init 58 = .ok (.iconst 0, 1) := by decide +kernel
theorem dX1_init_59 : decode cX1_init 59 = .ok (.putfield 24, 3) := by decide +kernel
theorem dX1_init_62 : decode cX1_init 62 = .ok (.aload_n 0, 1) := by decide +kernel
theorem dX1_init_63 : decode cX1_init 63 = .ok (.bipush 10, 2) := by decide +kernel
theorem dX1_init_65 : decode cX1_init 65 = .ok (.newarray .int, 2) := by decide +kernel
theorem dX1_init_67 : decode cX1_init 67 = .ok (.putfield 28, 3) := by decide +kernel
theorem dX1_init_70 : decode cX1_init 70 = .ok (.aload_n 0, 1) := by decide +kernel
theorem dX1_init_71 : decode cX1_init 71 = .ok (.bipush 10, 2) := by decide +kernel
theorem dX1_init_73 : decode cX1_init 73 = .ok (.newarray .int, 2) := by decide +kernel
theorem dX1_init_75 : decode cX1_init 75 = .ok (.putfield 31, 3) := by decide +kernel
theorem dX1_init_78 : decode cX1_init 78 = .ok (.aload_n 0, 1) := by decide +kernel
theorem dX1_init_79 : decode cX1_init 79 = .ok (.iconst 0, 1) := by decide +kernel
theorem dX1_init_80 : decode cX1_init 80 = .ok (.putfield 34, 3) := by decide +kernel
theorem dX1_init_83 : decode cX1_init 83 = .ok (.aload_n 0, 1) := by decide +kernel
theorem dX1_init_84 : decode cX1_init 84 = .ok (.iconst 0, 1) := by decide +kernel
theorem dX1_init_85 : decode cX1_init 85 = .ok (.putfield 37, 3) := by decide +kernel
theorem dX1_init_88 : decode cX1_init 88 = .ok (.aload_n 0, 1) := by decide +kernel
theorem dX1_init_89 : decode cX1_init 89 = .ok (.iconst 0, 1) := by decide +kernel
theorem dX1_init_90 : decode cX1_init 90 = .ok (.putfield 41, 3) := by decide +kernel
theorem dX1_init_93 : decode cX1_init 93 = .ok (.aload_n 0, 1) := by decide +kernel
theorem dX1_init_94 : decode cX1_init 94 = .ok (.iconst 0, 1) := by decide +kernel
theorem dX1_init_95 : decode cX1_init 95 = .ok (.putfield 44, 3) := by decide +kernel
theorem dX1_init_98 : decode cX1_init 98 = .ok (.aload_n 0, 1) := by decide +kernel
theorem dX1_init_99 : decode cX1_init 99 = .ok (.iconst 0, 1) := by decide +kernel
theorem dX1_init_100 : decode cX1_init 100 = .ok (.putfield 47, 3) := by decide +kernel
theorem dX1_init_103 : decode cX1_init 103 = .ok (.aload_n 0, 1) := by decide +kernel
theorem dX1_init_104 : decode cX1_init 104 = .ok (.iconst (-1), 1) := by decide +kernel
theorem dX1_init_105 : decode cX1_init 105 = .ok (.putfield 50, 3) := by decide +kernel
theorem dX1_init_108 : decode cX1_init 108 = .ok (.aload_n 0, 1) := by decide +kernel
theorem dX1_init_109 : decode cX1_init 109 = .ok (.iconst (-1), 1) := by decide +kernel
theorem dX1_init_110 : decode cX1_init 110 = .ok (.putfield 53, 3) := by decide +kernel
theorem dX1_init_113 : decode cX1_init 113 = .ok (.return_, 1) := by decide +kernel
theorem dX1_copyFrom_0 : decode cX1_copyFrom 0 = .ok (.aload_n 1, 1) := by decide +kernel
theorem dX1_copyFrom_1 : decode cX1_copyFrom 1 = .ok (.getfield 9, 3) := by decide +kernel
theorem dX1_copyFrom_4 : decode cX1_copyFrom 4 = .ok (.iconst 0, 1) := by decide +kernel
theorem dX1_copyFrom_5 : decode cX1_copyFrom 5 = .ok (.aload_n 0, 1) := by decide +kernel
theorem dX1_copyFrom_6 : decode cX1_copyFrom 6 = .ok (.getfield 9, 3) := by decide +kernel
theorem dX1_copyFrom_9 : decode cX1_copyFrom 9 = .ok (.iconst 0, 1) := by decide +kernel
theorem dX1_copyFrom_10 : decode cX1_copyFrom 10 = .ok (.bipush 32, 2) := by decide +kernel
theorem dX1_copyFrom_12 : decode cX1_copyFrom 12 = .ok (.invokestatic 56, 3) := by decide +kernel
theorem dX1_copyFrom_15 : decode cX1_copyFrom 15 = .ok (.aload_n 1, 1) := by decide +kernel
theorem dX1_copyFrom_16 : decode cX1_copyFrom 16 = .ok (.getfield 15, 3) := by decide +kernel
theorem dX1_copyFrom_19 : decode cX1_copyFrom 19 = .ok (.iconst 0, 1) := by decide +kernel
theorem dX1_copyFrom_20 : decode cX1_copyFrom 20 = .ok (.aload_n 0, 1) := by decide +kernel
theorem dX1_copyFrom_21 : decode cX1_copyFrom 21 = .ok (.getfield 15, 3) := by decide +kernel
theorem dX1_copyFrom_24 : decode cX1_copyFrom 24 = .ok (.iconst 0, 1) := by decide +kernel
theorem dX1_copyFrom_25 : decode cX1_copyFrom 25 = .ok (.bipush 32, 2) := by decide +kernel
theorem dX1_copyFrom_27 : decode cX1_copyFrom 27 = .ok (.invokestatic 56, 3) := by decide +kernel
theorem dX1_copyFrom_30 : decode cX1_copyFrom 30 = .ok (.aload_n 1, 1) := by decide +kernel
theorem dX1_copyFrom_31 : decode cX1_copyFrom 31 = .ok (.getfield 18, 3) := by decide +kernel
theorem dX1_copyFrom_34 : decode cX1_copyFrom 34 = .ok (.iconst 0, 1) := by decide +kernel
theorem dX1_copyFrom_35 : decode cX1_copyFrom 35 = .ok (.aload_n 0, 1) := by decide +kernel
theorem dX1_copyFrom_36 : decode cX1_copyFrom 36 = .ok (.getfield 18, 3) := by decide +kernel
theorem dX1_copyFrom_39 : decode cX1_copyFrom 39 = .ok (.iconst 0, 1) := by decide +kernel
theorem dX1_copyFrom_40 : decode cX1_copyFrom 40 = .ok (.bipush 32, 2) := by decide +kernel
theorem dX1_copyFrom_42 : decode cX1_copyFrom 42 = .ok (.invokestatic 56, 3) := by decide +kernel
theorem dX1_copyFrom_45 : decode cX1_copyFrom 45 = .ok (.aload_n 1, 1) := by decide +kernel
theorem dX1_copyFrom_46 : decode cX1_copyFrom 46 = .ok (.getfield 21, 3) := by decide +kernel
theorem dX1_copyFrom_49 : decode cX1_copyFrom 49 = .ok (.iconst 0, 1) := by decide +kernel
theorem dX1_copyFrom_50 : decode cX1_copyFrom 50 = .ok (.aload_n 0, 1) := by decide +kernel
theorem dX1_copyFrom_51 : decode cX1_copyFrom 51 = .ok (.getfield 21, 3) := by decide +kernel
theorem dX1_copyFrom_54 : decode cX1_copyFrom 54 = .ok (.iconst 0, 1) := by decide +kernel
theorem dX1_copyFrom_55 : decode cX1_copyFrom 55 = .ok (.bipush 32, 2) := by decide +kernel
theorem dX1_copyFrom_57 : decode cX1_copyFrom 57 = .ok (.invokestatic 56, 3) := by decide +kernel
theorem dX1_copyFrom_60 : decode cX1_copyFrom 60 = .ok (.aload_n 0, 1) := by decide +kernel
theorem dX1_copyFrom_61 : decode cX1_copyFrom 61 = .ok (.aload_n 1, 1) := by decide +kernel
theorem dX1_copyFrom_62 : decode cX1_copyFrom 62 = .ok (.getfield 24, 3) := by decide +kernel
theorem dX1_copyFrom_65 : decode cX1_copyFrom 65 = .ok (.putfield 24, 3) := by decide +kernel
theorem dX1_copyFrom_68 : decode cX1_copyFrom 68 = .ok (.aload_n 1, 1) := by decide +kernel
theorem dX1_copyFrom_69 : decode cX1_copyFrom 69 = .ok (.getfield 28, 3) := by decide +kernel
theorem dX1_copyFrom_72 : decode cX1_copyFrom 72 = .ok (.iconst 0, 1) := by decide +kernel
theorem dX1_copyFrom_73 : decode cX1_copyFrom 73 = .ok (.aload_n 0, 1) := by decide +kernel
theorem dX1_copyFrom_74 : decode cX1_copyFrom 74 = .ok (.getfield 28, 3) := by decide +kernel
theorem dX1_copyFrom_77 : decode cX1_copyFrom 77 = .ok (.iconst 0, 1) := by decide +kernel
theorem dX1_copyFrom_78 : decode cX1_copyFrom 78 = .ok (.bipush 10, 2) := by decide +kernel
theorem dX1_copyFrom_80 : decode cX1_copyFrom 80 = .ok (.invokestatic 56, 3) := by decide +kernel
theorem dX1_copyFrom_83 : decode cX1_copyFrom 83 = .ok (.aload_n 1, 1) := by decide +kernel
theorem dX1_copyFrom_84 : decode cX1_copyFrom 84 = .ok (.getfield 31, 3) := by decide +kernel
theorem dX1_copyFrom_87 : decode cX1_copyFrom 87 = .ok (.iconst 0, 1) := by decide +kernel
theorem dX1_copyFrom_88 : decode cX1_copyFrom 88 = .ok (.aload_n 0, 1) := by decide +kernel
theorem dX1_copyFrom_89 : decode cX1_copyFrom 89 = .ok (.getfield 31, 3) := by decide +kernel
theorem dX1_copyFrom_92 : decode cX1_copyFrom 92 = .ok (.iconst 0, 1) := by decide +kernel
theorem dX1_copyFrom_93 : decode cX1_copyFrom 93 = .ok (.bipush 10, 2) := by decide +kernel
theorem dX1_copyFrom_95 : decode cX1_copyFrom 95 = .ok (.invokestatic 56, 3) := by decide +kernel
theorem dX1_copyFrom_98 : decode cX1_copyFrom 98 = .ok (.aload_n 0, 1) := by decide +kernel
theorem dX1_copyFrom_99 : decode cX1_copyFrom 99 = .ok (.aload_n 1, 1) := by decide +kernel
theorem dX1_copyFrom_100 : decode cX1_copyFrom 100 = .ok (.getfield 34, 3) := by decide +kernel
theorem dX1_copyFrom_103 : decode cX1_copyFrom 103 = .ok (.putfield 34, 3) := by decide +kernel
theorem dX1_copyFrom_106 : decode cX1_copyFrom 106 = .ok (.aload_n 0, 1) := by decide +kernel
theorem dX1_copyFrom_107 : decode cX1_copyFrom 107 = .ok (.aload_n 1, 1) := by decide +kernel
theorem dX1_copyFrom_108 : decode cX1_copyFrom 108 = .ok (.getfield 37, 3) := by decide +kernel
theorem dX1_copyFrom_111 : decode cX1_copyFrom 111 = .ok (.putfield 37, 3) := by decide +kernel
theorem dX1_copyFrom_114 : decode cX1_copyFrom 114 = .ok (.aload_n 0, 1) := by decide +kernel
theorem dX1_copyFrom_115 : decode cX1_copyFrom 115 = .ok (.aload_n 1, 1) := by decide +kernel
theorem dX1_copyFrom_116 : decode cX1_copyFrom 116 = .ok (.getfield 41, 3) := by decide +kernel
theorem dX1_copyFrom_119 : decode cX1_copyFrom 119 = .ok (.putfield 41, 3) := by decide +kernel
theorem dX1_copyFrom_122 : decode cX1_copyFrom 122 = .ok (.aload_n 0, 1) := by decide +kernel
theorem dX1_copyFrom_123 : decode cX1_copyFrom 123 = .ok (.aload_n 1, 1) := by decide +kernel
theorem dX1_copyFrom_124 : decode cX1_copyFrom 124 = .ok (.getfield 44, 3) := by decide +kernel
theorem dX1_copyFrom_127 : decode cX1_copyFrom 127 = .ok (.putfield 44, 3) := by decide +kernel
theorem dX1_copyFrom_130 : decode cX1_copyFrom 130 = .ok (.aload_n 0, 1) := by decide +kernel
theorem dX1_copyFrom_131 : decode cX1_copyFrom 131 = .ok (.aload_n 1, 1) := by decide +kernel
theorem dX1_copyFrom_132 : decode cX1_copyFrom 132 = .ok (.getfield 47, 3) := by decide +kernel
theorem dX1_copyFrom_135 : decode cX1_copyFrom 135 = .ok (.putfield 47, 3) := by decide +kernel
theorem dX1_copyFrom_138 : decode cX1_copyFrom 138 = .ok (.aload_n 0, 1) := by decide +kernel
theorem dX1_copyFrom_139 : decode cX1_copyFrom 139 = .ok (.aload_n 1, 1) := by decide +kernel
theorem dX1_copyFrom_140 : decode cX1_copyFrom 140 = .ok (.getfield 50, 3) := by decide +kernel
theorem dX1_copyFrom_143 : decode cX1_copyFrom 143 = .ok (.putfield 50, 3) := by decide +kernel
theorem dX1_copyFrom_146 : decode cX1_copyFrom 146 = .ok (.aload_n 0, 1) := by decide +kernel
theorem dX1_copyFrom_147 : decode cX1_copyFrom 147 = .ok (.aload_n 1, 1) := by decide +kernel
theorem dX1_copyFrom_148 : decode cX1_copyFrom 148 = .ok (.getfield 53, 3) := by decide +kernel
theorem dX1_copyFrom_151 : decode cX1_copyFrom 151 = .ok (.putfield 53, 3) := by decide +kernel
theorem dX1_copyFrom_154 : decode cX1_copyFrom 154 = .ok (.return_, 1) := by decide +kernel
theorem dX1_isRecording_0 : decode cX1_isRecording 0 = .ok (.iload_n 1, 1) := by decide +kernel
theorem dX1_isRecording_1 : decode cX1_isRecording 1 = .ok (.ifCond .lt 15, 3) := by decide +kernel
theorem dX1_isRecording_4 : decode cX1_isRecording 4 = .ok (.iload_n 1, 1) := by decide +kernel
theorem dX1_isRecording_5 : decode cX1_isRecording 5 = .ok (.aload_n 0, 1) := by decide +kernel
theorem dX1_isRecording_6 : decode cX1_isRecording 6 = .ok (.getfield 34, 3) := by decide +kernel
theorem dX1_isRecording_9 : decode cX1_isRecording 9 = .ok (.if_icmp .ge 7, 3) := by decide +kernel
theorem dX1_isRecording_12 : decode cX1_isRecording 12 = .ok (.iconst 1, 1) := by decide +kernel
theorem dX1_isRecording_13 : decode cX1_isRecording 13 = .ok (.goto 4, 3) := by decide +kernel
theorem dX1_isRecording_16 : decode cX1_isRecording 16 = .ok (.iconst 0, 1) := by decide +kernel
theorem dX1_isRecording_17 : decode cX1_isRecording 17 = .ok (.ireturn, 1) := by decide +kernel
theorem dX1_runningNumber_0 : decode cX1_runningNumber 0 = .ok (.aload_n 0, 1) := by decide +kernel
theorem dX1_runningNumber_1 : decode cX1_runningNumber 1 = .ok (.getfield 37, 3) := by decide +kernel
theorem dX1_runningNumber_4 : decode cX1_runningNumber 4 = .ok (.ifCond .eq 12, 3) := by decide +kernel
theorem dX1_runningNumber_7 : decode cX1_runningNumber 7 = .ok (.aload_n 0, 1) := by decide +kernel
theorem dX1_runningNumber_8 : decode cX1_runningNumber 8 = .ok (.getfield 34, 3) := by decide +kernel
theorem dX1_runningNumber_11 : decode cX1_runningNumber 11 = .ok (.iconst 1, 1) := by decide +kernel
theorem dX1_runningNumber_12 : decode cX1_runningNumber 12 = .ok (.isub, 1) := by decide +kernel
theorem dX1_runningNumber_13 : decode cX1_runningNumber 13 = .ok (.goto 4, 3) := by decide +kernel
theorem dX1_runningNumber_16 : decode cX1_runningNumber 16 = .ok (.iconst (-1), 1) := by decide +kernel
theorem dX1_runningNumber_17 : decode cX1_runningNumber 17 = .ok (.ireturn, 1) := by decide +kernel
theorem dX1_isFlagged_0 : decode cX1_isFlagged 0 = .ok (.aload_n 0, 1) := by decide +kernel
theorem dX1_isFlagged_1 : decode cX1_isFlagged 1 = .ok (.getfield 28, 3) := by decide +kernel
theorem dX1_isFlagged_4 : decode cX1_isFlagged 4 = .ok (.iload_n 1, 1) := by decide +kernel
theorem dX1_isFlagged_5 : decode cX1_isFlagged 5 = .ok (.invokestatic 62, 3) := by decide +kernel
theorem dX1_isFlagged_8 : decode cX1_isFlagged 8 = .ok (.iconst 1, 1) := by decide +kernel
theorem dX1_isFlagged_9 : decode cX1_isFlagged 9 = .ok (.if_icmp .ne 7, 3) := by decide +kernel
theorem dX1_isFlagged_12 : decode cX1_isFlagged 12 = .ok (.iconst 1, 1) := by decide +kernel
theorem dX1_isFlagged_13 : decode cX1_isFlagged 13 = .ok (.goto 4, 3) := by decide +kernel
theorem dX1_isFlagged_16 : decode cX1_isFlagged 16 = .ok (.iconst 0, 1) := by decide +kernel
theorem dX1_isFlagged_17 : decode cX1_isFlagged 17 = .ok (.ireturn, 1) := by decide +kernel
theorem dX1_putFlag_0 : decode cX1_putFlag 0 = .ok (.aload_n 0, 1) := by decide +kernel
theorem dX1_putFlag_1 : decode cX1_putFlag 1 = .ok (.getfield 28, 3) := by decide +kernel
theorem dX1_putFlag_4 : decode cX1_putFlag 4 = .ok (.iload_n 1, 1) := by decide +kernel
theorem dX1_putFlag_5 : decode cX1_putFlag 5 = .ok (.iload_n 2, 1) := by decide +kernel
theorem dX1_putFlag_6 : decode cX1_putFlag 6 = .ok (.ifCond .eq 7, 3) := by decide +kernel
theorem dX1_putFlag_9 : decode cX1_putFlag 9 = .ok (.iconst 1, 1) := by decide +kernel
theorem dX1_putFlag_10 : decode cX1_putFlag 10 = .ok (.goto 4, 3) := by decide +kernel
theorem dX1_putFlag_13 : decode cX1_putFlag 13 = .ok (.iconst 0, 1) := by decide +kernel
theorem dX1_putFlag_14 : decode cX1_putFlag 14 = .ok (.invokestatic 66, 3) := by decide +kernel
theorem dX1_putFlag_17 : decode cX1_putFlag 17 = .ok (.return_, 1) := by decide +kernel
theorem dX1_cellCount_0 : decode cX1_cellCount 0 = .ok (.iconst 0, 1) := by decide +kernel
theorem dX1_cellCount_1 : decode cX1_cellCount 1 = .ok (.istore_n 2, 1) := by decide +kernel
theorem dX1_cellCount_2 : decode cX1_cellCount 2 = .ok (.iconst 0, 1) := by decide +kernel
theorem dX1_cellCount_3 : decode cX1_cellCount 3 = .ok (.istore_n 3, 1) := by decide +kernel
theorem dX1_cellCount_4 : decode cX1_cellCount 4 = .ok (.iload_n 3, 1) := by decide +kernel
theorem dX1_cellCount_5 : decode cX1_cellCount 5 = .ok (.bipush 32, 2) := by decide +kernel
theorem dX1_cellCount_7 : decode cX1_cellCount 7 = .ok (.if_icmp .ge 24, 3) := by decide +kernel
theorem dX1_cellCount_10 : decode cX1_cellCount 10 = .ok (.aload_n 0, 1) := by decide +kernel
theorem dX1_cellCount_11 : decode cX1_cellCount 11 = .ok (.getfield 9, 3) := by decide +kernel
theorem dX1_cellCount_14 : decode cX1_cellCount 14 = .ok (.iload_n 3, 1) := by decide +kernel
theorem dX1_cellCount_15 : decode cX1_cellCount 15 = .ok (.invokestatic 62, 3) := by decide +kernel
theorem dX1_cellCount_18 : decode cX1_cellCount 18 = .ok (.iload_n 1, 1) := by decide +kernel
theorem dX1_cellCount_19 : decode cX1_cellCount 19 = .ok (.if_icmp .ne 6, 3) := by decide +kernel
theorem dX1_cellCount_22 : decode cX1_cellCount 22 = .ok (.iinc 2 1, 3) := by decide +kernel
theorem dX1_cellCount_25 : decode cX1_cellCount 25 = .ok (.iinc 3 1, 3) := by decide +kernel
theorem dX1_cellCount_28 : decode cX1_cellCount 28 = .ok (.goto (-24), 3) := by decide +kernel
theorem dX1_cellCount_31 : decode cX1_cellCount 31 = .ok (.iload_n 2, 1) := by decide +kernel
theorem dX1_cellCount_32 : decode cX1_cellCount 32 = .ok (.ireturn, 1) := by decide +kernel
theorem dX1_cellAt_0 : decode cX1_cellAt 0 = .ok (.iconst 0, 1) := by decide +kernel
theorem dX1_cellAt_1 : decode cX1_cellAt 1 = .ok (.istore_n 3, 1) := by decide +kernel
theorem dX1_cellAt_2 : decode cX1_cellAt 2 = .ok (.iconst 0, 1) := by decide +kernel
theorem dX1_cellAt_3 : decode cX1_cellAt 3 = .ok (.istore 4, 2) := by decide +kernel
theorem dX1_cellAt_5 : decode cX1_cellAt 5 = .ok (.iload 4, 2) := by decide +kernel
theorem dX1_cellAt_7 : decode cX1_cellAt 7 = .ok (.aload_n 0, 1) := by decide +kernel
theorem dX1_cellAt_8 : decode cX1_cellAt 8 = .ok (.getfield 24, 3) := by decide +kernel
theorem dX1_cellAt_11 : decode cX1_cellAt 11 = .ok (.if_icmp .ge 44, 3) := by decide +kernel
theorem dX1_cellAt_14 : decode cX1_cellAt 14 = .ok (.aload_n 0, 1) := by decide +kernel
theorem dX1_cellAt_15 : decode cX1_cellAt 15 = .ok (.getfield 21, 3) := by decide +kernel
theorem dX1_cellAt_18 : decode cX1_cellAt 18 = .ok (.iload 4, 2) := by decide +kernel
theorem dX1_cellAt_20 : decode cX1_cellAt 20 = .ok (.invokestatic 62, 3) := by decide +kernel
theorem dX1_cellAt_23 : decode cX1_cellAt 23 = .ok (.istore 5, 2) := by decide +kernel
theorem dX1_cellAt_25 : decode cX1_cellAt 25 = .ok (.aload_n 0, 1) := by decide +kernel
theorem dX1_cellAt_26 : decode cX1_cellAt 26 = .ok (.getfield 9, 3) := by decide +kernel
theorem dX1_cellAt_29 : decode cX1_cellAt 29 = .ok (.iload 5, 2) := by decide +kernel
theorem dX1_cellAt_31 : decode cX1_cellAt 31 = .ok (.invokestatic 62, 3) := by decide +kernel
theorem dX1_cellAt_34 : decode cX1_cellAt 34 = .ok (.iload_n 1, 1) := by decide +kernel
theorem dX1_cellAt_35 : decode cX1_cellAt 35 = .ok (.if_icmp .ne 14, 3) := by decide +kernel
theorem dX1_cellAt_38 : decode cX1_cellAt 38 = .ok (.iload_n 3, 1) := by decide +kernel
theorem dX1_cellAt_39 : decode cX1_cellAt 39 = .ok (.iload_n 2, 1) := by decide +kernel
theorem dX1_cellAt_40 : decode cX1_cellAt 40 = .ok (.if_icmp .ne 6, 3) := by decide +kernel
theorem dX1_cellAt_43 : decode cX1_cellAt 43 = .ok (.iload 5, 2) := by decide +kernel
theorem dX1_cellAt_45 : decode cX1_cellAt 45 = .ok (.ireturn, 1) := by decide +kernel
theorem dX1_cellAt_46 : decode cX1_cellAt 46 = .ok (.iinc 3 1, 3) := by decide +kernel
theorem dX1_cellAt_49 : decode cX1_cellAt 49 = .ok (.iinc 4 1, 3) := by decide +kernel
theorem dX1_cellAt_52 : decode cX1_cellAt 52 = .ok (.goto (-47), 3) := by decide +kernel
theorem dX1_cellAt_55 : decode cX1_cellAt 55 = .ok (.iconst (-1), 1) := by decide +kernel
theorem dX1_cellAt_56 : decode cX1_cellAt 56 = .ok (.ireturn, 1) := by decide +kernel
theorem dX1_mayBegin_0 : decode cX1_mayBegin 0 = .ok (.aload_n 0, 1) := by decide +kernel
theorem dX1_mayBegin_1 : decode cX1_mayBegin 1 = .ok (.getfield 34, 3) := by decide +kernel
theorem dX1_mayBegin_4 : decode cX1_mayBegin 4 = .ok (.bipush 10, 2) := by decide +kernel
theorem dX1_mayBegin_6 : decode cX1_mayBegin 6 = .ok (.if_icmp .lt 21, 3) := by decide +kernel
theorem dX1_mayBegin_9 : decode cX1_mayBegin 9 = .ok (.aload_n 0, 1) := by decide +kernel
theorem dX1_mayBegin_10 : decode cX1_mayBegin 10 = .ok (.getfield 37, 3) := by decide +kernel
theorem dX1_mayBegin_13 : decode cX1_mayBegin 13 = .ok (.ifCond .eq 18, 3) := by decide +kernel
theorem dX1_mayBegin_16 : decode cX1_mayBegin 16 = .ok (.aload_n 0, 1) := by decide +kernel
theorem dX1_mayBegin_17 : decode cX1_mayBegin 17 = .ok (.aload_n 0, 1) := by decide +kernel
theorem dX1_mayBegin_18 : decode cX1_mayBegin 18 = .ok (.invokevirtual 70, 3) := by decide +kernel
theorem dX1_mayBegin_21 : decode cX1_mayBegin 21 = .ok (.invokevirtual 74, 3) := by decide +kernel
theorem dX1_mayBegin_24 : decode cX1_mayBegin 24 = .ok (.ifCond .ne 7, 3) := by decide +kernel
theorem dX1_mayBegin_27 : decode cX1_mayBegin 27 = .ok (.iconst 1, 1) := by decide +kernel
theorem dX1_mayBegin_28 : decode cX1_mayBegin 28 = .ok (.goto 4, 3) := by decide +kernel
theorem dX1_mayBegin_31 : decode cX1_mayBegin 31 = .ok (.iconst 0, 1) := by decide +kernel
theorem dX1_mayBegin_32 : decode cX1_mayBegin 32 = .ok (.ireturn, 1) := by decide +kernel
theorem dX1_beginRecording_0 : decode cX1_beginRecording 0 = .ok (.aload_n 0, 1) := by decide +kernel
theorem dX1_beginRecording_1 : decode cX1_beginRecording 1 = .ok (.getfield 37, 3) := by decide +kernel
theorem dX1_beginRecording_4 : decode cX1_beginRecording 4 = .ok (.ifCond .eq 8, 3) := by decide +kernel
theorem dX1_beginRecording_7 : decode cX1_beginRecording 7 = .ok (.aload_n 0, 1) := by decide +kernel
theorem dX1_beginRecording_8 : decode cX1_beginRecording 8 = .ok (.invokevirtual 78, 3) := by decide +kernel
theorem dX1_beginRecording_11 : decode cX1_beginRecording 11 = .ok (.pop, 1) := by decide +kernel
theorem dX1_beginRecording_12 : decode cX1_beginRecording 12 = .ok (.aload_n 0, 1) := by decide +kernel
theorem dX1_beginRecording_13 : decode cX1_beginRecording 13 = .ok (.getfield 34, 3) := by decide +kernel
theorem dX1_beginRecording_16 : decode cX1_beginRecording 16 = .ok (.istore_n 1, 1) := by decide +kernel
theorem dX1_beginRecording_17 : decode cX1_beginRecording 17 = .ok (.aload_n 0, 1) := by decide +kernel
theorem dX1_beginRecording_18 : decode cX1_beginRecording 18 = .ok (.getfield 28, 3) := by decide +kernel
theorem dX1_beginRecording_21 : decode cX1_beginRecording 21 = .ok (.iload_n 1, 1) := by decide +kernel
theorem dX1_beginRecording_22 : decode cX1_beginRecording 22 = .ok (.iconst 0, 1) := by decide +kernel
theorem dX1_beginRecording_23 : decode cX1_beginRecording 23 = .ok (.invokestatic 66, 3) := by decide +kernel
theorem dX1_beginRecording_26 : decode cX1_beginRecording 26 = .ok (.aload_n 0, 1) := by decide +kernel
theorem dX1_beginRecording_27 : decode cX1_beginRecording 27 = .ok (.getfield 31, 3) := by decide +kernel
theorem dX1_beginRecording_30 : decode cX1_beginRecording 30 = .ok (.iload_n 1, 1) := by decide +kernel
theorem dX1_beginRecording_31 : decode cX1_beginRecording 31 = .ok (.iconst 0, 1) := by decide +kernel
theorem dX1_beginRecording_32 : decode cX1_beginRecording 32 = .ok (.invokestatic 66, 3) := by decide +kernel
theorem dX1_beginRecording_35 : decode cX1_beginRecording 35 = .ok (.aload_n 0, 1) := by decide +kernel
theorem dX1_beginRecording_36 : decode cX1_beginRecording 36 = .ok (.dup, 1) := by decide +kernel
theorem dX1_beginRecording_37 : decode cX1_beginRecording 37 = .ok (.getfield 34, 3) := by decide +kernel
theorem dX1_beginRecording_40 : decode cX1_beginRecording 40 = .ok (.iconst 1, 1) := by decide +kernel
theorem dX1_beginRecording_41 : decode cX1_beginRecording 41 = .ok (.iadd, 1) := by decide +kernel
theorem dX1_beginRecording_42 : decode cX1_beginRecording 42 = .ok (.putfield 34, 3) := by decide +kernel
theorem dX1_beginRecording_45 : decode cX1_beginRecording 45 = .ok (.aload_n 0, 1) := by decide +kernel
theorem dX1_beginRecording_46 : decode cX1_beginRecording 46 = .ok (.iconst 1, 1) := by decide +kernel
theorem dX1_beginRecording_47 : decode cX1_beginRecording 47 = .ok (.putfield 37, 3) := by decide +kernel
theorem dX1_beginRecording_50 : decode cX1_beginRecording 50 = .ok (.iload_n 1, 1) := by decide +kernel
theorem dX1_beginRecording_51 : decode cX1_beginRecording 51 = .ok (.ireturn, 1) := by decide +kernel
theorem dX1_stopRecording_0 : decode cX1_stopRecording 0 = .ok (.aload_n 0, 1) := by decide +kernel
theorem dX1_stopRecording_1 : decode cX1_stopRecording 1 = .ok (.invokevirtual 70, 3) := by decide +kernel
theorem dX1_stopRecording_4 : decode cX1_stopRecording 4 = .ok (.istore_n 1, 1) := by decide +kernel
theorem dX1_stopRecording_5 : decode cX1_stopRecording 5 = .ok (.aload_n 0, 1) := by decide +kernel
theorem dX1_stopRecording_6 : decode cX1_stopRecording 6 = .ok (.iload_n 1, 1) := by decide +kernel
theorem dX1_stopRecording_7 : decode cX1_stopRecording 7 = .ok (.invokevirtual 74, 3) := by decide +kernel
theorem dX1_stopRecording_10 : decode cX1_stopRecording 10 = .ok (.istore_n 2, 1) := by decide +kernel
theorem dX1_stopRecording_11 : decode cX1_stopRecording 11 = .ok (.aload_n 0, 1) := by decide +kernel
theorem dX1_stopRecording_12 : decode cX1_stopRecording 12 = .ok (.iconst 0, 1) := by decide +kernel
theorem dX1_stopRecording_13 : decode cX1_stopRecording 13 = .ok (.putfield 37, 3) := by decide +kernel
theorem dX1_stopRecording_16 : decode cX1_stopRecording 16 = .ok (.iload_n 2, 1) := by decide +kernel
theorem dX1_stopRecording_17 : decode cX1_stopRecording 17 = .ok (.ifCond .ne 8, 3) := by decide +kernel
theorem dX1_stopRecording_20 : decode cX1_stopRecording 20 = .ok (.aload_n 0, 1) := by decide +kernel
theorem dX1_stopRecording_21 : decode cX1_stopRecording 21 = .ok (.iload_n 1, 1) := by decide +kernel
theorem dX1_stopRecording_22 : decode cX1_stopRecording 22 = .ok (.invokevirtual 81, 3) := by decide +kernel
theorem dX1_stopRecording_25 : decode cX1_stopRecording 25 = .ok (.iload_n 2, 1) := by decide +kernel
theorem dX1_stopRecording_26 : decode cX1_stopRecording 26 = .ok (.ireturn, 1) := by decide +kernel
theorem dX1_eraseRecording_0 : decode cX1_eraseRecording 0 = .ok (.iconst 0, 1) := by decide +kernel
theorem dX1_eraseRecording_1 : decode cX1_eraseRecording 1 = .ok (.istore_n 2, 1) := by decide +kernel
theorem dX1_eraseRecording_2 : decode cX1_eraseRecording 2 = .ok (.iconst 0, 1) := by decide +kernel
theorem dX1_eraseRecording_3 : decode cX1_eraseRecording 3 = .ok (.istore_n 3, 1) := by decide +kernel
theorem dX1_eraseRecording_4 : decode cX1_eraseRecording 4 = .ok (.iload_n 3, 1) := by decide +kernel
theorem dX1_eraseRecording_5 : decode cX1_eraseRecording 5 = .ok (.bipush 32, 2) := by decide +kernel
theorem dX1_eraseRecording_7 : decode cX1_eraseRecording 7 = .ok (.if_icmp .ge 33, 3) := by decide +kernel
theorem dX1_eraseRecording_10 : decode cX1_eraseRecording 10 = .ok (.aload_n 0, 1) := by decide +kernel
theorem dX1_eraseRecording_11 : decode cX1_eraseRecording 11 = .ok (.getfield 9, 3) := by decide +kernel
theorem dX1_eraseRecording_14 : decode cX1_eraseRecording 14 = .ok (.iload_n 3, 1) := by decide +kernel
theorem dX1_eraseRecording_15 : decode cX1_eraseRecording 15 = .ok (.invokestatic 62, 3) := by decide +kernel
theorem dX1_eraseRecording_18 : decode cX1_eraseRecording 18 = .ok (.iload_n 1, 1) := by decide +kernel
theorem dX1_eraseRecording_19 : decode cX1_eraseRecording 19 = .ok (.if_icmp .ne 15, 3) := by decide +kernel
theorem dX1_eraseRecording_22 : decode cX1_eraseRecording 22 = .ok (.aload_n 0, 1) := by decide +kernel
theorem dX1_eraseRecording_23 : decode cX1_eraseRecording 23 = .ok (.getfield 9, 3) := by decide +kernel
theorem dX1_eraseRecording_26 : decode cX1_eraseRecording 26 = .ok (.iload_n 3, 1) := by decide +kernel
theorem dX1_eraseRecording_27 : decode cX1_eraseRecording 27 = .ok (.iconst (-1), 1) := by decide +kernel
theorem dX1_eraseRecording_28 : decode cX1_eraseRecording 28 = .ok (.invokestatic 66, 3) := by decide +kernel
theorem dX1_eraseRecording_31 : decode cX1_eraseRecording 31 = .ok (.iinc 2 1, 3) := by decide +kernel
theorem dX1_eraseRecording_34 : decode cX1_eraseRecording 34 = .ok (.iinc 3 1, 3) := by decide +kernel
theorem dX1_eraseRecording_37 : decode cX1_eraseRecording 37 = .ok (.goto (-33), 3) := by decide +kernel
theorem dX1_eraseRecording_40 : decode cX1_eraseRecording 40 = .ok (.aload_n 0, 1) := by decide +kernel
theorem dX1_eraseRecording_41 : decode cX1_eraseRecording 41 = .ok (.invokevirtual 85, 3) := by decide +kernel
theorem dX1_eraseRecording_44 : decode cX1_eraseRecording 44 = .ok (.aload_n 0, 1) := by decide +kernel
theorem dX1_eraseRecording_45 : decode cX1_eraseRecording 45 = .ok (.iload_n 1, 1) := by decide +kernel
theorem dX1_eraseRecording_46 : decode cX1_eraseRecording 46 = .ok (.invokevirtual 81, 3) := by decide +kernel
theorem dX1_eraseRecording_49 : decode cX1_eraseRecording 49 = .ok (.iload_n 2, 1) := by decide +kernel
theorem dX1_eraseRecording_50 : decode cX1_eraseRecording 50 = .ok (.ireturn, 1) := by decide +kernel
theorem dX1_removeRecording_0 : decode cX1_removeRecording 0 = .ok (.iload_n 1, 1) := by decide +kernel
theorem dX1_removeRecording_1 : decode cX1_removeRecording 1 = .ok (.aload_n 0, 1) := by decide +kernel
theorem dX1_removeRecording_2 : decode cX1_removeRecording 2 = .ok (.invokevirtual 70, 3) := by decide +kernel
theorem dX1_removeRecording_5 : decode cX1_removeRecording 5 = .ok (.if_icmp .ne 8, 3) := by decide +kernel
theorem dX1_removeRecording_8 : decode cX1_removeRecording 8 = .ok (.aload_n 0, 1) := by decide +kernel
theorem dX1_removeRecording_9 : decode cX1_removeRecording 9 = .ok (.iconst 0, 1) := by decide +kernel
theorem dX1_removeRecording_10 : decode cX1_removeRecording 10 = .ok (.putfield 37, 3) := by decide +kernel
theorem dX1_removeRecording_13 : decode cX1_removeRecording 13 = .ok (.iload_n 1, 1) := by decide +kernel
theorem dX1_removeRecording_14 : decode cX1_removeRecording 14 = .ok (.istore_n 2, 1) := by decide +kernel
theorem dX1_removeRecording_15 : decode cX1_removeRecording 15 = .ok (.iload_n 2, 1) := by decide +kernel
theorem dX1_removeRecording_16 : decode cX1_removeRecording 16 = .ok (.iconst 1, 1) := by decide +kernel
theorem dX1_removeRecording_17 : decode cX1_removeRecording 17 = .ok (.iadd, 1) := by decide +kernel
theorem dX1_removeRecording_18 : decode cX1_removeRecording 18 = .ok (.aload_n 0, 1) := by decide +kernel
theorem dX1_removeRecording_19 : decode cX1_removeRecording 19 = .ok (.getfield 34, 3) := by decide +kernel
theorem dX1_removeRecording_22 : decode cX1_removeRecording 22 = .ok (.if_icmp .ge 45, 3) := by decide +kernel
theorem dX1_removeRecording_25 : decode cX1_removeRecording 25 = .ok (.aload_n 0, 1) := by decide +kernel
theorem dX1_removeRecording_26 : decode cX1_removeRecording 26 = .ok (.getfield 28, 3) := by decide +kernel
theorem dX1_removeRecording_29 : decode cX1_removeRecording 29 = .ok (.iload_n 2, 1) := by decide +kernel
theorem dX1_removeRecording_30 : decode cX1_removeRecording 30 = .ok (.aload_n 0, 1) := by decide +kernel
theorem dX1_removeRecording_31 : decode cX1_removeRecording 31 = .ok (.getfield 28, 3) := by decide +kernel
theorem dX1_removeRecording_34 : decode cX1_removeRecording 34 = .ok (.iload_n 2, 1) := by decide +kernel
theorem dX1_removeRecording_35 : decode cX1_removeRecording 35 = .ok (.iconst 1, 1) := by decide +kernel
theorem dX1_removeRecording_36 : decode cX1_removeRecording 36 = .ok (.iadd, 1) := by decide +kernel
theorem dX1_removeRecording_37 : decode cX1_removeRecording 37 = .ok (.invokestatic 62, 3) := by decide +kernel
theorem dX1_removeRecording_40 : decode cX1_removeRecording 40 = .ok (.invokestatic 66, 3) := by decide +kernel
theorem dX1_removeRecording_43 : decode cX1_removeRecording 43 = .ok (.aload_n 0, 1) := by decide +kernel
theorem dX1_removeRecording_44 : decode cX1_removeRecording 44 = .ok (.getfield 31, 3) := by decide +kernel
theorem dX1_removeRecording_47 : decode cX1_removeRecording 47 = .ok (.iload_n 2, 1) := by decide +kernel
theorem dX1_removeRecording_48 : decode cX1_removeRecording 48 = .ok (.aload_n 0, 1) := by decide +kernel
theorem dX1_removeRecording_49 : decode cX1_removeRecording 49 = .ok (.getfield 31, 3) := by decide +kernel
theorem dX1_removeRecording_52 : decode cX1_removeRecording 52 = .ok (.iload_n 2, 1) := by decide +kernel
theorem dX1_removeRecording_53 : decode cX1_removeRecording 53 = .ok (.iconst 1, 1) := by decide +kernel
theorem dX1_removeRecording_54 : decode cX1_removeRecording 54 = .ok (.iadd, 1) := by decide +kernel
theorem dX1_removeRecording_55 : decode cX1_removeRecording 55 = .ok (.invokestatic 62, 3) := by decide +kernel
theorem dX1_removeRecording_58 : decode cX1_removeRecording 58 = .ok (.invokestatic 66, 3) := by decide +kernel
theorem dX1_removeRecording_61 : decode cX1_removeRecording 61 = .ok (.iinc 2 1, 3) := by decide +kernel
theorem dX1_removeRecording_64 : decode cX1_removeRecording 64 = .ok (.goto (-49), 3) := by decide +kernel
theorem dX1_removeRecording_67 : decode cX1_removeRecording 67 = .ok (.aload_n 0, 1) := by decide +kernel
theorem dX1_removeRecording_68 : decode cX1_removeRecording 68 = .ok (.dup, 1) := by decide +kernel
theorem dX1_removeRecording_69 : decode cX1_removeRecording 69 = .ok (.getfield 34, 3) := by decide +kernel
theorem dX1_removeRecording_72 : decode cX1_removeRecording 72 = .ok (.iconst 1, 1) := by decide +kernel
theorem dX1_removeRecording_73 : decode cX1_removeRecording 73 = .ok (.isub, 1) := by decide +kernel
theorem dX1_removeRecording_74 : decode cX1_removeRecording 74 = .ok (.putfield 34, 3) := by decide +kernel
theorem dX1_removeRecording_77 : decode cX1_removeRecording 77 = .ok (.iconst 0, 1) := by decide +kernel
theorem dX1_removeRecording_78 : decode cX1_removeRecording 78 = .ok (.istore_n 2, 1) := by decide +kernel
theorem dX1_removeRecording_79 : decode cX1_removeRecording 79 = .ok (.iload_n 2, 1) := by decide +kernel
theorem dX1_removeRecording_80 : decode cX1_removeRecording 80 = .ok (.bipush 32, 2) := by decide +kernel
theorem dX1_removeRecording_82 : decode cX1_removeRecording 82 = .ok (.if_icmp .ge 34, 3) := by decide +kernel
theorem dX1_removeRecording_85 : decode cX1_removeRecording 85 = .ok (.aload_n 0, 1) := by decide +kernel
theorem dX1_removeRecording_86 : decode cX1_removeRecording 86 = .ok (.getfield 9, 3) := by decide +kernel
theorem dX1_removeRecording_89 : decode cX1_removeRecording 89 = .ok (.iload_n 2, 1) := by decide +kernel
theorem dX1_removeRecording_90 : decode cX1_removeRecording 90 = .ok (.invokestatic 62, 3) := by decide +kernel
theorem dX1_removeRecording_93 : decode cX1_removeRecording 93 = .ok (.istore_n 3, 1) := by decide +kernel
theorem dX1_removeRecording_94 : decode cX1_removeRecording 94 = .ok (.iload_n 3, 1) := by decide +kernel
theorem dX1_removeRecording_95 : decode cX1_removeRecording 95 = .ok (.iload_n 1, 1) := by decide +kernel
theorem dX1_removeRecording_96 : decode cX1_removeRecording 96 = .ok (.if_icmp .le 14, 3) := by decide +kernel
theorem dX1_removeRecording_99 : decode cX1_removeRecording 99 = .ok (.aload_n 0, 1) := by decide +kernel
theorem dX1_removeRecording_100 : decode cX1_removeRecording 100 = .ok (.getfield 9, 3) := by decide +kernel
theorem dX1_removeRecording_103 : decode cX1_removeRecording 103 = .ok (.iload_n 2, 1) := by decide +kernel
theorem dX1_removeRecording_104 : decode cX1_removeRecording 104 = .ok (.iload_n 3, 1) := by decide +kernel
theorem dX1_removeRecording_105 : decode cX1_removeRecording 105 = .ok (.iconst 1, 1) := by decide +kernel
theorem dX1_removeRecording_106 : decode cX1_removeRecording 106 = .ok (.isub, 1) := by decide +kernel
theorem dX1_removeRecording_107 : decode cX1_removeRecording 107 = .ok (.invokestatic 66, 3) := by decide +kernel
theorem dX1_removeRecording_110 : decode cX1_removeRecording 110 = .ok (.iinc 2 1, 3) := by decide +kernel
theorem dX1_removeRecording_113 : decode cX1_removeRecording 113 = .ok (.goto (-34), 3) := by decide +kernel
theorem dX1_removeRecording_116 : decode cX1_removeRecording 116 = .ok (.aload_n 0, 1) := by decide +kernel
theorem dX1_removeRecording_117 : decode cX1_removeRecording 117 = .ok (.getfield 50, 3) := by decide +kernel
theorem dX1_removeRecording_120 : decode cX1_removeRecording 120 = .ok (.iload_n 1, 1) := by decide +kernel
theorem dX1_removeRecording_121 : decode cX1_removeRecording 121 = .ok (.if_icmp .ne 16, 3) := by decide +kernel
theorem dX1_removeRecording_124 : decode cX1_removeRecording 124 = .ok (.aload_n 0, 1) := by decide +kernel
theorem dX1_removeRecording_125 : decode cX1_removeRecording 125 = .ok (.iconst (-1), 1) := by decide +kernel
theorem dX1_removeRecording_126 : decode cX1_removeRecording 126 = .ok (.putfield 50, 3) := by decide +kernel
theorem dX1_removeRecording_129 : decode cX1_removeRecording 129 = .ok (.aload_n 0, 1) := by decide +kernel
theorem dX1_removeRecording_130 : decode cX1_removeRecording 130 = .ok (.iconst (-1), 1) := by decide +kernel
theorem dX1_removeRecording_131 : decode cX1_removeRecording 131 = .ok (.putfield 53, 3) := by decide +kernel
theorem dX1_removeRecording_134 : decode cX1_removeRecording 134 = .ok (.goto 21, 3) := by decide +kernel
theorem dX1_removeRecording_137 : decode cX1_removeRecording 137 = .ok (.aload_n 0, 1) := by decide +kernel
theorem dX1_removeRecording_138 : decode cX1_removeRecording 138 = .ok (.getfield 50, 3) := by decide +kernel
theorem dX1_removeRecording_141 : decode cX1_removeRecording 141 = .ok (.iload_n 1, 1) := by decide +kernel
theorem dX1_removeRecording_142 : decode cX1_removeRecording 142 = .ok (.if_icmp .le 13, 3) := by decide +kernel
theorem dX1_removeRecording_145 : decode cX1_removeRecording 145 = .ok (.aload_n 0, 1) := by decide +kernel
theorem dX1_removeRecording_146 : decode cX1_removeRecording 146 = .ok (.dup, 1) := by decide +kernel
theorem dX1_removeRecording_147 : decode cX1_removeRecording 147 = .ok (.getfield 50, 3) := by decide +kernel
theorem dX1_removeRecording_150 : decode cX1_removeRecording 150 = .ok (.iconst 1, 1) := by decide +kernel
theorem dX1_removeRecording_151 : decode cX1_removeRecording 151 = .ok (.isub, 1) := by decide +kernel
theorem dX1_removeRecording_152 : decode cX1_removeRecording 152 = .ok (.putfield 50, 3) := by decide +kernel
theorem dX1_removeRecording_155 : decode cX1_removeRecording 155 = .ok (.return_, 1) := by decide +kernel
theorem dX1_dropFreeCells_0 : decode cX1_dropFreeCells 0 = .ok (.iconst 0, 1) := by decide +kernel
theorem dX1_dropFreeCells_1 : decode cX1_dropFreeCells 1 = .ok (.istore_n 1, 1) := by decide +kernel
theorem dX1_dropFreeCells_2 : decode cX1_dropFreeCells 2 = .ok (.iconst 0, 1) := by decide +kernel
theorem dX1_dropFreeCells_3 : decode cX1_dropFreeCells 3 = .ok (.istore_n 2, 1) := by decide +kernel
theorem dX1_dropFreeCells_4 : decode cX1_dropFreeCells 4 = .ok (.iload_n 2, 1) := by decide +kernel
theorem dX1_dropFreeCells_5 : decode cX1_dropFreeCells 5 = .ok (.aload_n 0, 1) := by decide +kernel
theorem dX1_dropFreeCells_6 : decode cX1_dropFreeCells 6 = .ok (.getfield 24, 3) := by decide +kernel
theorem dX1_dropFreeCells_9 : decode cX1_dropFreeCells 9 = .ok (.if_icmp .ge 42, 3) := by decide +kernel
theorem dX1_dropFreeCells_12 : decode cX1_dropFreeCells 12 = .ok (.aload_n 0, 1) := by decide +kernel
theorem dX1_dropFreeCells_13 : decode cX1_dropFreeCells 13 = .ok (.getfield 21, 3) := by decide +kernel
theorem dX1_dropFreeCells_16 : decode cX1_dropFreeCells 16 = .ok (.iload_n 2, 1) := by decide +kernel
theorem dX1_dropFreeCells_17 : decode cX1_dropFreeCells 17 = .ok (.invokestatic 62, 3) := by decide +kernel
theorem dX1_dropFreeCells_20 : decode cX1_dropFreeCells 20 = .ok (.istore_n 3, 1) := by decide +kernel
theorem dX1_dropFreeCells_21 : decode cX1_dropFreeCells 21 = .ok (.aload_n 0, 1) := by decide +kernel
theorem dX1_dropFreeCells_22 : decode cX1_dropFreeCells 22 = .ok (.getfield 9, 3) := by decide +kernel
theorem dX1_dropFreeCells_25 : decode cX1_dropFreeCells 25 = .ok (.iload_n 3, 1) := by decide +kernel
theorem dX1_dropFreeCells_26 : decode cX1_dropFreeCells 26 = .ok (.invokestatic 62, 3) := by decide +kernel
theorem dX1_dropFreeCells_29 : decode cX1_dropFreeCells 29 = .ok (.iconst (-1), 1) := by decide +kernel
theorem dX1_dropFreeCells_30 : decode cX1_dropFreeCells 30 = .ok (.if_icmp .eq 15, 3) := by decide +kernel
theorem dX1_dropFreeCells_33 : decode cX1_dropFreeCells 33 = .ok (.aload_n 0, 1) := by decide +kernel
theorem dX1_dropFreeCells_34 : decode cX1_dropFreeCells 34 = .ok (.getfield 21, 3) := by decide +kernel
theorem dX1_dropFreeCells_37 : decode cX1_dropFreeCells 37 = .ok (.iload_n 1, 1) := by decide +kernel
theorem dX1_dropFreeCells_38 : decode cX1_dropFreeCells 38 = .ok (.iload_n 3, 1) := by decide +kernel
theorem dX1_dropFreeCells_39 : decode cX1_dropFreeCells 39 = .ok (.invokestatic 66, 3) := by decide +kernel
theorem dX1_dropFreeCells_42 : decode cX1_dropFreeCells 42 = .ok (.iinc 1 1, 3) := by decide +kernel
theorem dX1_dropFreeCells_45 : decode cX1_dropFreeCells 45 = .ok (.iinc 2 1, 3) := by decide +kernel
theorem dX1_dropFreeCells_48 : decode cX1_dropFreeCells 48 = .ok (.goto (-44), 3) := by decide +kernel
theorem dX1_dropFreeCells_51 : decode cX1_dropFreeCells 51 = .ok (.aload_n 0, 1) := by decide +kernel
theorem dX1_dropFreeCells_52 : decode cX1_dropFreeCells 52 = .ok (.iload_n 1, 1) := by decide +kernel
theorem dX1_dropFreeCells_53 : decode cX1_dropFreeCells 53 = .ok (.putfield 24, 3) := by decide +kernel
theorem dX1_dropFreeCells_56 : decode cX1_dropFreeCells 56 = .ok (.return_, 1) := by decide +kernel
theorem dX1_cellFromHead_0 : decode cX1_cellFromHead 0 = .ok (.aload_n 0, 1) := by decide +kernel
theorem dX1_cellFromHead_1 : decode cX1_cellFromHead 1 = .ok (.getfield 41, 3) := by decide +kernel
theorem dX1_cellFromHead_4 : decode cX1_cellFromHead 4 = .ok (.iload_n 1, 1) := by decide +kernel
theorem dX1_cellFromHead_5 : decode cX1_cellFromHead 5 = .ok (.iadd, 1) := by decide +kernel
theorem dX1_cellFromHead_6 : decode cX1_cellFromHead 6 = .ok (.bipush 32, 2) := by decide +kernel
theorem dX1_cellFromHead_8 : decode cX1_cellFromHead 8 = .ok (.irem, 1) := by decide +kernel
theorem dX1_cellFromHead_9 : decode cX1_cellFromHead 9 = .ok (.ireturn, 1) := by decide +kernel
theorem dX1_isWritable_0 : decode cX1_isWritable 0 = .ok (.aload_n 0, 1) := by decide +kernel
theorem dX1_isWritable_1 : decode cX1_isWritable 1 = .ok (.getfield 9, 3) := by decide +kernel
theorem dX1_isWritable_4 : decode cX1_isWritable 4 = .ok (.iload_n 1, 1) := by decide +kernel
theorem dX1_isWritable_5 : decode cX1_isWritable 5 = .ok (.invokestatic 62, 3) := by decide +kernel
theorem dX1_isWritable_8 : decode cX1_isWritable 8 = .ok (.istore_n 2, 1) := by decide +kernel
theorem dX1_isWritable_9 : decode cX1_isWritable 9 = .ok (.iload_n 2, 1) := by decide +kernel
theorem dX1_isWritable_10 : decode cX1_isWritable 10 = .ok (.iconst (-1), 1) := by decide +kernel
theorem dX1_isWritable_11 : decode cX1_isWritable 11 = .ok (.if_icmp .eq 22, 3) := by decide +kernel
theorem dX1_isWritable_14 : decode cX1_isWritable 14 = .ok (.iload_n 2, 1) := by decide +kernel
theorem dX1_isWritable_15 : decode cX1_isWritable 15 = .ok (.aload_n 0, 1) := by decide +kernel
theorem dX1_isWritable_16 : decode cX1_isWritable 16 = .ok (.invokevirtual 70, 3) := by decide +kernel
theorem dX1_isWritable_19 : decode cX1_isWritable 19 = .ok (.if_icmp .eq 18, 3) := by decide +kernel
theorem dX1_isWritable_22 : decode cX1_isWritable 22 = .ok (.aload_n 0, 1) := by decide +kernel
theorem dX1_isWritable_23 : decode cX1_isWritable 23 = .ok (.getfield 28, 3) := by decide +kernel
theorem dX1_isWritable_26 : decode cX1_isWritable 26 = .ok (.iload_n 2, 1) := by decide +kernel
theorem dX1_isWritable_27 : decode cX1_isWritable 27 = .ok (.invokestatic 62, 3) := by decide +kernel
theorem dX1_isWritable_30 : decode cX1_isWritable 30 = .ok (.ifCond .ne 7, 3) := by decide +kernel
theorem dX1_isWritable_33 : decode cX1_isWritable 33 = .ok (.iconst 1, 1) := by decide +kernel
theorem dX1_isWritable_34 : decode cX1_isWritable 34 = .ok (.goto 4, 3) := by decide +kernel
theorem dX1_isWritable_37 : decode cX1_isWritable 37 = .ok (.iconst 0, 1) := by decide +kernel
theorem dX1_isWritable_38 : decode cX1_isWritable 38 = .ok (.ireturn, 1) := by decide +kernel
theorem dX1_writableCells_0 : decode cX1_writableCells 0 = .ok (.iconst 0, 1) := by decide +kernel
theorem dX1_writableCells_1 : decode cX1_writableCells 1 = .ok (.istore_n 1, 1) := by decide +kernel
theorem dX1_writableCells_2 : decode cX1_writableCells 2 = .ok (.iconst 0, 1) := by decide +kernel
theorem dX1_writableCells_3 : decode cX1_writableCells 3 = .ok (.istore_n 2, 1) := by decide +kernel
theorem dX1_writableCells_4 : decode cX1_writableCells 4 = .ok (.iload_n 2, 1) := by decide +kernel
theorem dX1_writableCells_5 : decode cX1_writableCells 5 = .ok (.bipush 32, 2) := by decide +kernel
theorem dX1_writableCells_7 : decode cX1_writableCells 7 = .ok (.if_icmp .ge 20, 3) := by decide +kernel
theorem dX1_writableCells_10 : decode cX1_writableCells 10 = .ok (.aload_n 0, 1) := by decide +kernel
theorem dX1_writableCells_11 : decode cX1_writableCells 11 = .ok (.iload_n 2, 1) := by decide +kernel
theorem dX1_writableCells_12 : decode cX1_writableCells 12 = .ok (.invokevirtual 88, 3) := by decide +kernel
theorem dX1_writableCells_15 : decode cX1_writableCells 15 = .ok (.ifCond .eq 6, 3) := by decide +kernel
theorem dX1_writableCells_18 : decode cX1_writableCells 18 = .ok (.iinc 1 1, 3) := by decide +kernel
theorem dX1_writableCells_21 : decode cX1_writableCells 21 = .ok (.iinc 2 1, 3) := by decide +kernel
theorem dX1_writableCells_24 : decode cX1_writableCells 24 = .ok (.goto (-20), 3) := by decide +kernel
theorem dX1_writableCells_27 : decode cX1_writableCells 27 = .ok (.iload_n 1, 1) := by decide +kernel
theorem dX1_writableCells_28 : decode cX1_writableCells 28 = .ok (.ireturn, 1) := by decide +kernel
theorem dX1_firstWritable_0 : decode cX1_firstWritable 0 = .ok (.iconst 0, 1) := by decide +kernel
theorem dX1_firstWritable_1 : decode cX1_firstWritable 1 = .ok (.istore_n 1, 1) := by decide +kernel
theorem dX1_firstWritable_2 : decode cX1_firstWritable 2 = .ok (.iload_n 1, 1) := by decide +kernel
theorem dX1_firstWritable_3 : decode cX1_firstWritable 3 = .ok (.bipush 32, 2) := by decide +kernel
theorem dX1_firstWritable_5 : decode cX1_firstWritable 5 = .ok (.if_icmp .ge 25, 3) := by decide +kernel
theorem dX1_firstWritable_8 : decode cX1_firstWritable 8 = .ok (.aload_n 0, 1) := by decide +kernel
theorem dX1_firstWritable_9 : decode cX1_firstWritable 9 = .ok (.iload_n 1, 1) := by decide +kernel
theorem dX1_firstWritable_10 : decode cX1_firstWritable 10 = .ok (.invokevirtual 92, 3) := by decide +kernel
theorem dX1_firstWritable_13 : decode cX1_firstWritable 13 = .ok (.istore_n 2, 1) := by decide +kernel
theorem dX1_firstWritable_14 : decode cX1_firstWritable 14 = .ok (.aload_n 0, 1) := by decide +kernel
theorem dX1_firstWritable_15 : decode cX1_firstWritable 15 = .ok (.iload_n 2, 1) := by decide +kernel
theorem dX1_firstWritable_16 : decode cX1_firstWritable 16 = .ok (.invokevirtual 88, 3) := by decide +kernel
theorem dX1_firstWritable_19 : decode cX1_firstWritable 19 = .ok (.ifCond .eq 5, 3) := by decide +kernel
theorem dX1_firstWritable_22 : decode cX1_firstWritable 22 = .ok (.iload_n 2, 1) := by decide +kernel
theorem dX1_firstWritable_23 : decode cX1_firstWritable 23 = .ok (.ireturn, 1) := by decide +kernel
theorem dX1_firstWritable_24 : decode cX1_firstWritable 24 = .ok (.iinc 1 1, 3) := by decide +kernel
theorem dX1_firstWritable_27 : decode cX1_firstWritable 27 = .ok (.goto (-25), 3) := by decide +kernel
theorem dX1_firstWritable_30 : decode cX1_firstWritable 30 = .ok (.iconst (-1), 1) := by decide +kernel
theorem dX1_firstWritable_31 : decode cX1_firstWritable 31 = .ok (.ireturn, 1) := by decide +kernel
theorem dX1_firstLoser_0 : decode cX1_firstLoser 0 = .ok (.iconst 0, 1) := by decide +kernel
theorem dX1_firstLoser_1 : decode cX1_firstLoser 1 = .ok (.istore_n 1, 1) := by decide +kernel
theorem dX1_firstLoser_2 : decode cX1_firstLoser 2 = .ok (.iload_n 1, 1) := by decide +kernel
theorem dX1_firstLoser_3 : decode cX1_firstLoser 3 = .ok (.bipush 32, 2) := by decide +kernel
theorem dX1_firstLoser_5 : decode cX1_firstLoser 5 = .ok (.if_icmp .ge 39, 3) := by decide +kernel
theorem dX1_firstLoser_8 : decode cX1_firstLoser 8 = .ok (.aload_n 0, 1) := by decide +kernel
theorem dX1_firstLoser_9 : decode cX1_firstLoser 9 = .ok (.iload_n 1, 1) := by decide +kernel
theorem dX1_firstLoser_10 : decode cX1_firstLoser 10 = .ok (.invokevirtual 92, 3) := by decide +kernel
theorem dX1_firstLoser_13 : decode cX1_firstLoser 13 = .ok (.istore_n 2, 1) := by decide +kernel
theorem dX1_firstLoser_14 : decode cX1_firstLoser 14 = .ok (.aload_n 0, 1) := by decide +kernel
theorem dX1_firstLoser_15 : decode cX1_firstLoser 15 = .ok (.getfield 9, 3) := by decide +kernel
theorem dX1_firstLoser_18 : decode cX1_firstLoser 18 = .ok (.iload_n 2, 1) := by decide +kernel
theorem dX1_firstLoser_19 : decode cX1_firstLoser 19 = .ok (.invokestatic 62, 3) := by decide +kernel
theorem dX1_firstLoser_22 : decode cX1_firstLoser 22 = .ok (.istore_n 3, 1) := by decide +kernel
theorem dX1_firstLoser_23 : decode cX1_firstLoser 23 = .ok (.iload_n 3, 1) := by decide +kernel
theorem dX1_firstLoser_24 : decode cX1_firstLoser 24 = .ok (.iconst (-1), 1) := by decide +kernel
theorem dX1_firstLoser_25 : decode cX1_firstLoser 25 = .ok (.if_icmp .eq 13, 3) := by decide +kernel
theorem dX1_firstLoser_28 : decode cX1_firstLoser 28 = .ok (.aload_n 0, 1) := by decide +kernel
theorem dX1_firstLoser_29 : decode cX1_firstLoser 29 = .ok (.iload_n 2, 1) := by decide +kernel
theorem dX1_firstLoser_30 : decode cX1_firstLoser 30 = .ok (.invokevirtual 88, 3) := by decide +kernel
theorem dX1_firstLoser_33 : decode cX1_firstLoser 33 = .ok (.ifCond .eq 5, 3) := by decide +kernel
theorem dX1_firstLoser_36 : decode cX1_firstLoser 36 = .ok (.iload_n 3, 1) := by decide +kernel
theorem dX1_firstLoser_37 : decode cX1_firstLoser 37 = .ok (.ireturn, 1) := by decide +kernel
theorem dX1_firstLoser_38 : decode cX1_firstLoser 38 = .ok (.iinc 1 1, 3) := by decide +kernel
theorem dX1_firstLoser_41 : decode cX1_firstLoser 41 = .ok (.goto (-39), 3) := by decide +kernel
theorem dX1_firstLoser_44 : decode cX1_firstLoser 44 = .ok (.iconst (-1), 1) := by decide +kernel
theorem dX1_firstLoser_45 : decode cX1_firstLoser 45 = .ok (.ireturn, 1) := by decide +kernel
theorem dX1_lossAfter_0 : decode cX1_lossAfter 0 = .ok (.iload_n 2, 1) := by decide +kernel
theorem dX1_lossAfter_1 : decode cX1_lossAfter 1 = .ok (.istore_n 3, 1) := by decide +kernel
theorem dX1_lossAfter_2 : decode cX1_lossAfter 2 = .ok (.iconst 0, 1) := by decide +kernel
theorem dX1_lossAfter_3 : decode cX1_lossAfter 3 = .ok (.istore 4, 2) := by decide +kernel
theorem dX1_lossAfter_5 : decode cX1_lossAfter 5 = .ok (.iconst 0, 1) := by decide +kernel
theorem dX1_lossAfter_6 : decode cX1_lossAfter 6 = .ok (.istore 5, 2) := by decide +kernel
theorem dX1_lossAfter_8 : decode cX1_lossAfter 8 = .ok (.iload 5, 2) := by decide +kernel
theorem dX1_lossAfter_10 : decode cX1_lossAfter 10 = .ok (.bipush 32, 2) := by decide +kernel
theorem dX1_lossAfter_12 : decode cX1_lossAfter 12 = .ok (.if_icmp .ge 49, 3) := by decide +kernel
theorem dX1_lossAfter_15 : decode cX1_lossAfter 15 = .ok (.iload_n 3, 1) := by decide +kernel
theorem dX1_lossAfter_16 : decode cX1_lossAfter 16 = .ok (.ifCond .le 45, 3) := by decide +kernel
theorem dX1_lossAfter_19 : decode cX1_lossAfter 19 = .ok (.aload_n 0, 1) := by decide +kernel
theorem dX1_lossAfter_20 : decode cX1_lossAfter 20 = .ok (.iload 5, 2) := by decide +kernel
theorem dX1_lossAfter_22 : decode cX1_lossAfter 22 = .ok (.invokevirtual 92, 3) := by decide +kernel
theorem dX1_lossAfter_25 : decode cX1_lossAfter 25 = .ok (.istore 6, 2) := by decide +kernel
theorem dX1_lossAfter_27 : decode cX1_lossAfter 27 = .ok (.aload_n 0, 1) := by decide +kernel
theorem dX1_lossAfter_28 : decode cX1_lossAfter 28 = .ok (.iload 6, 2) := by decide +kernel
theorem dX1_lossAfter_30 : decode cX1_lossAfter 30 = .ok (.invokevirtual 88, 3) := by decide +kernel
theorem dX1_lossAfter_33 : decode cX1_lossAfter 33 = .ok (.ifCond .eq 22, 3) := by decide +kernel
theorem dX1_lossAfter_36 : decode cX1_lossAfter 36 = .ok (.iinc 3 (-1), 3) := by decide +kernel
theorem dX1_lossAfter_39 : decode cX1_lossAfter 39 = .ok (.aload_n 0, 1) := by decide +kernel
theorem dX1_lossAfter_40 : decode cX1_lossAfter 40 = .ok (.getfield 9, 3) := by decide +kernel
theorem dX1_lossAfter_43 : decode cX1_lossAfter 43 = .ok (.iload 6, 2) := by decide +kernel
theorem dX1_lossAfter_45 : decode cX1_lossAfter 45 = .ok (.invokestatic 62, 3) := by decide +kernel
theorem dX1_lossAfter_48 : decode cX1_lossAfter 48 = .ok (.iload_n 1, 1) := by decide +kernel
theorem dX1_lossAfter_49 : decode cX1_lossAfter 49 = .ok (.if_icmp .ne 6, 3) := by decide +kernel
theorem dX1_lossAfter_52 : decode cX1_lossAfter 52 = .ok (.iinc 4 1, 3) := by decide +kernel
theorem dX1_lossAfter_55 : decode cX1_lossAfter 55 = .ok (.iinc 5 1, 3) := by decide +kernel
theorem dX1_lossAfter_58 : decode cX1_lossAfter 58 = .ok (.goto (-50), 3) := by decide +kernel
theorem dX1_lossAfter_61 : decode cX1_lossAfter 61 = .ok (.iload 4, 2) := by decide +kernel
theorem dX1_lossAfter_63 : decode cX1_lossAfter 63 = .ok (.ireturn, 1) := by decide +kernel
theorem dX1_maySpeak_0 : decode cX1_maySpeak 0 = .ok (.aload_n 0, 1) := by decide +kernel
theorem dX1_maySpeak_1 : decode cX1_maySpeak 1 = .ok (.getfield 37, 3) := by decide +kernel
theorem dX1_maySpeak_4 : decode cX1_maySpeak 4 = .ok (.ifCond .eq 15, 3) := by decide +kernel
theorem dX1_maySpeak_7 : decode cX1_maySpeak 7 = .ok (.aload_n 0, 1) := by decide +kernel
theorem dX1_maySpeak_8 : decode cX1_maySpeak 8 = .ok (.invokevirtual 95, 3) := by decide +kernel
theorem dX1_maySpeak_11 : decode cX1_maySpeak 11 = .ok (.iload_n 1, 1) := by decide +kernel
theorem dX1_maySpeak_12 : decode cX1_maySpeak 12 = .ok (.if_icmp .lt 7, 3) := by decide +kernel
theorem dX1_maySpeak_15 : decode cX1_maySpeak 15 = .ok (.iconst 1, 1) := by decide +kernel
theorem dX1_maySpeak_16 : decode cX1_maySpeak 16 = .ok (.goto 4, 3) := by decide +kernel
theorem dX1_maySpeak_19 : decode cX1_maySpeak 19 = .ok (.iconst 0, 1) := by decide +kernel
theorem dX1_maySpeak_20 : decode cX1_maySpeak 20 = .ok (.ireturn, 1) := by decide +kernel
theorem dX1_speakTimes_0 : decode cX1_speakTimes 0 = .ok (.iconst (-1), 1) := by decide +kernel
theorem dX1_speakTimes_1 : decode cX1_speakTimes 1 = .ok (.istore_n 3, 1) := by decide +kernel
theorem dX1_speakTimes_2 : decode cX1_speakTimes 2 = .ok (.iconst 0, 1) := by decide +kernel
theorem dX1_speakTimes_3 : decode cX1_speakTimes 3 = .ok (.istore 4, 2) := by decide +kernel
theorem dX1_speakTimes_5 : decode cX1_speakTimes 5 = .ok (.iload 4, 2) := by decide +kernel
theorem dX1_speakTimes_7 : decode cX1_speakTimes 7 = .ok (.iload_n 1, 1) := by decide +kernel
theorem dX1_speakTimes_8 : decode cX1_speakTimes 8 = .ok (.if_icmp .ge 32, 3) := by decide +kernel
theorem dX1_speakTimes_11 : decode cX1_speakTimes 11 = .ok (.aload_n 0, 1) := by decide +kernel
theorem dX1_speakTimes_12 : decode cX1_speakTimes 12 = .ok (.invokevirtual 98, 3) := by decide +kernel
theorem dX1_speakTimes_15 : decode cX1_speakTimes 15 = .ok (.istore_n 3, 1) := by decide +kernel
theorem dX1_speakTimes_16 : decode cX1_speakTimes 16 = .ok (.iload_n 3, 1) := by decide +kernel
theorem dX1_speakTimes_17 : decode cX1_speakTimes 17 = .ok (.iconst (-1), 1) := by decide +kernel
theorem dX1_speakTimes_18 : decode cX1_speakTimes 18 = .ok (.if_icmp .ne 5, 3) := by decide +kernel
theorem dX1_speakTimes_21 : decode cX1_speakTimes 21 = .ok (.iconst (-1), 1) := by decide +kernel
theorem dX1_speakTimes_22 : decode cX1_speakTimes 22 = .ok (.ireturn, 1) := by decide +kernel
theorem dX1_speakTimes_23 : decode cX1_speakTimes 23 = .ok (.aload_n 0, 1) := by decide +kernel
theorem dX1_speakTimes_24 : decode cX1_speakTimes 24 = .ok (.iload_n 3, 1) := by decide +kernel
theorem dX1_speakTimes_25 : decode cX1_speakTimes 25 = .ok (.invokevirtual 101, 3) := by decide +kernel
theorem dX1_speakTimes_28 : decode cX1_speakTimes 28 = .ok (.aload_n 0, 1) := by decide +kernel
theorem dX1_speakTimes_29 : decode cX1_speakTimes 29 = .ok (.iload_n 3, 1) := by decide +kernel
theorem dX1_speakTimes_30 : decode cX1_speakTimes 30 = .ok (.iload_n 2, 1) := by decide +kernel
theorem dX1_speakTimes_31 : decode cX1_speakTimes 31 = .ok (.invokevirtual 104, 3) := by decide +kernel
theorem dX1_speakTimes_34 : decode cX1_speakTimes 34 = .ok (.iinc 4 1, 3) := by decide +kernel
theorem dX1_speakTimes_37 : decode cX1_speakTimes 37 = .ok (.goto (-32), 3) := by decide +kernel
theorem dX1_speakTimes_40 : decode cX1_speakTimes 40 = .ok (.iload_n 3, 1) := by decide +kernel
theorem dX1_speakTimes_41 : decode cX1_speakTimes 41 = .ok (.ireturn, 1) := by decide +kernel
theorem dX1_loseCell_0 : decode cX1_loseCell 0 = .ok (.aload_n 0, 1) := by decide +kernel
theorem dX1_loseCell_1 : decode cX1_loseCell 1 = .ok (.getfield 9, 3) := by decide +kernel
theorem dX1_loseCell_4 : decode cX1_loseCell 4 = .ok (.iload_n 1, 1) := by decide +kernel
theorem dX1_loseCell_5 : decode cX1_loseCell 5 = .ok (.invokestatic 62, 3) := by decide +kernel
theorem dX1_loseCell_8 : decode cX1_loseCell 8 = .ok (.istore_n 2, 1) := by decide +kernel
theorem dX1_loseCell_9 : decode cX1_loseCell 9 = .ok (.iload_n 2, 1) := by decide +kernel
theorem dX1_loseCell_10 : decode cX1_loseCell 10 = .ok (.iconst (-1), 1) := by decide +kernel
theorem dX1_loseCell_11 : decode cX1_loseCell 11 = .ok (.if_icmp .ne 4, 3) := by decide +kernel
theorem dX1_loseCell_14 : decode cX1_loseCell 14 = .ok (.return_, 1) := by decide +kernel
theorem dX1_loseCell_15 : decode cX1_loseCell 15 = .ok (.aload_n 0, 1) := by decide +kernel
theorem dX1_loseCell_16 : decode cX1_loseCell 16 = .ok (.getfield 50, 3) := by decide +kernel
theorem dX1_loseCell_19 : decode cX1_loseCell 19 = .ok (.iload_n 2, 1) := by decide +kernel
theorem dX1_loseCell_20 : decode cX1_loseCell 20 = .ok (.if_icmp .ne 25, 3) := by decide +kernel
theorem dX1_loseCell_23 : decode cX1_loseCell 23 = .ok (.aload_n 0, 1) := by decide +kernel
theorem dX1_loseCell_24 : decode cX1_loseCell 24 = .ok (.iload_n 1, 1) := by decide +kernel
theorem dX1_loseCell_25 : decode cX1_loseCell 25 = .ok (.invokevirtual 108, 3) := by decide +kernel
theorem dX1_loseCell_28 : decode cX1_loseCell 28 = .ok (.aload_n 0, 1) := by decide +kernel
theorem dX1_loseCell_29 : decode cX1_loseCell 29 = .ok (.getfield 53, 3) := by decide +kernel
theorem dX1_loseCell_32 : decode cX1_loseCell 32 = .ok (.if_icmp .ge 13, 3) := by decide +kernel
theorem dX1_loseCell_35 : decode cX1_loseCell 35 = .ok (.aload_n 0, 1) := by decide +kernel
theorem dX1_loseCell_36 : decode cX1_loseCell 36 = .ok (.dup, 1) := by decide +kernel
theorem dX1_loseCell_37 : decode cX1_loseCell 37 = .ok (.getfield 53, 3) := by decide +kernel
theorem dX1_loseCell_40 : decode cX1_loseCell 40 = .ok (.iconst 1, 1) := by decide +kernel
theorem dX1_loseCell_41 : decode cX1_loseCell 41 = .ok (.isub, 1) := by decide +kernel
theorem dX1_loseCell_42 : decode cX1_loseCell 42 = .ok (.putfield 53, 3) := by decide +kernel
theorem dX1_loseCell_45 : decode cX1_loseCell 45 = .ok (.aload_n 0, 1) := by decide +kernel
theorem dX1_loseCell_46 : decode cX1_loseCell 46 = .ok (.getfield 9, 3) := by decide +kernel
theorem dX1_loseCell_49 : decode cX1_loseCell 49 = .ok (.iload_n 1, 1) := by decide +kernel
theorem dX1_loseCell_50 : decode cX1_loseCell 50 = .ok (.iconst (-1), 1) := by decide +kernel
theorem dX1_loseCell_51 : decode cX1_loseCell 51 = .ok (.invokestatic 66, 3) := by decide +kernel
theorem dX1_loseCell_54 : decode cX1_loseCell 54 = .ok (.aload_n 0, 1) := by decide +kernel
theorem dX1_loseCell_55 : decode cX1_loseCell 55 = .ok (.invokevirtual 85, 3) := by decide +kernel
theorem dX1_loseCell_58 : decode cX1_loseCell 58 = .ok (.aload_n 0, 1) := by decide +kernel
theorem dX1_loseCell_59 : decode cX1_loseCell 59 = .ok (.getfield 31, 3) := by decide +kernel
theorem dX1_loseCell_62 : decode cX1_loseCell 62 = .ok (.iload_n 2, 1) := by decide +kernel
theorem dX1_loseCell_63 : decode cX1_loseCell 63 = .ok (.aload_n 0, 1) := by decide +kernel
theorem dX1_loseCell_64 : decode cX1_loseCell 64 = .ok (.getfield 31, 3) := by decide +kernel
theorem dX1_loseCell_67 : decode cX1_loseCell 67 = .ok (.iload_n 2, 1) := by decide +kernel
theorem dX1_loseCell_68 : decode cX1_loseCell 68 = .ok (.invokestatic 62, 3) := by decide +kernel
theorem dX1_loseCell_71 : decode cX1_loseCell 71 = .ok (.iconst 1, 1) := by decide +kernel
theorem dX1_loseCell_72 : decode cX1_loseCell 72 = .ok (.iadd, 1) := by decide +kernel
theorem dX1_loseCell_73 : decode cX1_loseCell 73 = .ok (.invokestatic 66, 3) := by decide +kernel
theorem dX1_loseCell_76 : decode cX1_loseCell 76 = .ok (.aload_n 0, 1) := by decide +kernel
theorem dX1_loseCell_77 : decode cX1_loseCell 77 = .ok (.iload_n 2, 1) := by decide +kernel
theorem dX1_loseCell_78 : decode cX1_loseCell 78 = .ok (.invokevirtual 74, 3) := by decide +kernel
theorem dX1_loseCell_81 : decode cX1_loseCell 81 = .ok (.ifCond .ne 18, 3) := by decide +kernel
theorem dX1_loseCell_84 : decode cX1_loseCell 84 = .ok (.aload_n 0, 1) := by decide +kernel
theorem dX1_loseCell_85 : decode cX1_loseCell 85 = .ok (.dup, 1) := by decide +kernel
theorem dX1_loseCell_86 : decode cX1_loseCell 86 = .ok (.getfield 47, 3) := by decide +kernel
theorem dX1_loseCell_89 : decode cX1_loseCell 89 = .ok (.iconst 1, 1) := by decide +kernel
theorem dX1_loseCell_90 : decode cX1_loseCell 90 = .ok (.iadd, 1) := by decide +kernel
theorem dX1_loseCell_91 : decode cX1_loseCell 91 = .ok (.putfield 47, 3) := by decide +kernel
theorem dX1_loseCell_94 : decode cX1_loseCell 94 = .ok (.aload_n 0, 1) := by decide +kernel
theorem dX1_loseCell_95 : decode cX1_loseCell 95 = .ok (.iload_n 2, 1) := by decide +kernel
theorem dX1_loseCell_96 : decode cX1_loseCell 96 = .ok (.invokevirtual 81, 3) := by decide +kernel
theorem dX1_loseCell_99 : decode cX1_loseCell 99 = .ok (.return_, 1) := by decide +kernel
theorem dX1_cellsBefore_0 : decode cX1_cellsBefore 0 = .ok (.aload_n 0, 1) := by decide +kernel
theorem dX1_cellsBefore_1 : decode cX1_cellsBefore 1 = .ok (.getfield 9, 3) := by decide +kernel
theorem dX1_cellsBefore_4 : decode cX1_cellsBefore 4 = .ok (.iload_n 1, 1) := by decide +kernel
theorem dX1_cellsBefore_5 : decode cX1_cellsBefore 5 = .ok (.invokestatic 62, 3) := by decide +kernel
theorem dX1_cellsBefore_8 : decode cX1_cellsBefore 8 = .ok (.istore_n 2, 1) := by decide +kernel
theorem dX1_cellsBefore_9 : decode cX1_cellsBefore 9 = .ok (.iconst 0, 1) := by decide +kernel
theorem dX1_cellsBefore_10 : decode cX1_cellsBefore 10 = .ok (.istore_n 3, 1) := by decide +kernel
theorem dX1_cellsBefore_11 : decode cX1_cellsBefore 11 = .ok (.iconst 0, 1) := by decide +kernel
theorem dX1_cellsBefore_12 : decode cX1_cellsBefore 12 = .ok (.istore 4, 2) := by decide +kernel
theorem dX1_cellsBefore_14 : decode cX1_cellsBefore 14 = .ok (.iload 4, 2) := by decide +kernel
theorem dX1_cellsBefore_16 : decode cX1_cellsBefore 16 = .ok (.aload_n 0, 1) := by decide +kernel
theorem dX1_cellsBefore_17 : decode cX1_cellsBefore 17 = .ok (.getfield 24, 3) := by decide +kernel
theorem dX1_cellsBefore_20 : decode cX1_cellsBefore 20 = .ok (.if_icmp .ge 44, 3) := by decide +kernel
theorem dX1_cellsBefore_23 : decode cX1_cellsBefore 23 = .ok (.aload_n 0, 1) := by decide +kernel
theorem dX1_cellsBefore_24 : decode cX1_cellsBefore 24 = .ok (.getfield 21, 3) := by decide +kernel
theorem dX1_cellsBefore_27 : decode cX1_cellsBefore 27 = .ok (.iload 4, 2) := by decide +kernel
theorem dX1_cellsBefore_29 : decode cX1_cellsBefore 29 = .ok (.invokestatic 62, 3) := by decide +kernel
theorem dX1_cellsBefore_32 : decode cX1_cellsBefore 32 = .ok (.istore 5, 2) := by decide +kernel
theorem dX1_cellsBefore_34 : decode cX1_cellsBefore 34 = .ok (.iload 5, 2) := by decide +kernel
theorem dX1_cellsBefore_36 : decode cX1_cellsBefore 36 = .ok (.iload_n 1, 1) := by decide +kernel
theorem dX1_cellsBefore_37 : decode cX1_cellsBefore 37 = .ok (.if_icmp .ne 5, 3) := by decide +kernel
theorem dX1_cellsBefore_40 : decode cX1_cellsBefore 40 = .ok (.iload_n 3, 1) := by decide +kernel
theorem dX1_cellsBefore_41 : decode cX1_cellsBefore 41 = .ok (.ireturn, 1) := by decide +kernel
theorem dX1_cellsBefore_42 : decode cX1_cellsBefore 42 = .ok (.aload_n 0, 1) := by decide +kernel
theorem dX1_cellsBefore_43 : decode cX1_cellsBefore 43 = .ok (.getfield 9, 3) := by decide +kernel
theorem dX1_cellsBefore_46 : decode cX1_cellsBefore 46 = .ok (.iload 5, 2) := by decide +kernel
theorem dX1_cellsBefore_48 : decode cX1_cellsBefore 48 = .ok (.invokestatic 62, 3) := by decide +kernel
theorem dX1_cellsBefore_51 : decode cX1_cellsBefore 51 = .ok (.iload_n 2, 1) := by decide +kernel
theorem dX1_cellsBefore_52 : decode cX1_cellsBefore 52 = .ok (.if_icmp .ne 6, 3) := by decide +kernel
theorem dX1_cellsBefore_55 : decode cX1_cellsBefore 55 = .ok (.iinc 3 1, 3) := by decide +kernel
theorem dX1_cellsBefore_58 : decode cX1_cellsBefore 58 = .ok (.iinc 4 1, 3) := by decide +kernel
theorem dX1_cellsBefore_61 : decode cX1_cellsBefore 61 = .ok (.goto (-47), 3) := by decide +kernel
theorem dX1_cellsBefore_64 : decode cX1_cellsBefore 64 = .ok (.iload_n 3, 1) := by decide +kernel
theorem dX1_cellsBefore_65 : decode cX1_cellsBefore 65 = .ok (.ireturn, 1) := by decide +kernel
theorem dX1_writeCell_0 : decode cX1_writeCell 0 = .ok (.aload_n 0, 1) := by decide +kernel
theorem dX1_writeCell_1 : decode cX1_writeCell 1 = .ok (.getfield 9, 3) := by decide +kernel
theorem dX1_writeCell_4 : decode cX1_writeCell 4 = .ok (.iload_n 1, 1) := by decide +kernel
theorem dX1_writeCell_5 : decode cX1_writeCell 5 = .ok (.aload_n 0, 1) := by decide +kernel
theorem dX1_writeCell_6 : decode cX1_writeCell 6 = .ok (.invokevirtual 70, 3) := by decide +kernel
theorem dX1_writeCell_9 : decode cX1_writeCell 9 = .ok (.invokestatic 66, 3) := by decide +kernel
theorem dX1_writeCell_12 : decode cX1_writeCell 12 = .ok (.aload_n 0, 1) := by decide +kernel
theorem dX1_writeCell_13 : decode cX1_writeCell 13 = .ok (.getfield 15, 3) := by decide +kernel
theorem dX1_writeCell_16 : decode cX1_writeCell 16 = .ok (.iload_n 1, 1) := by decide +kernel
theorem dX1_writeCell_17 : decode cX1_writeCell 17 = .ok (.iload_n 2, 1) := by decide +kernel
theorem dX1_writeCell_18 : decode cX1_writeCell 18 = .ok (.invokestatic 66, 3) := by decide +kernel
theorem dX1_writeCell_21 : decode cX1_writeCell 21 = .ok (.aload_n 0, 1) := by decide +kernel
theorem dX1_writeCell_22 : decode cX1_writeCell 22 = .ok (.getfield 18, 3) := by decide +kernel
theorem dX1_writeCell_25 : decode cX1_writeCell 25 = .ok (.iload_n 1, 1) := by decide +kernel
theorem dX1_writeCell_26 : decode cX1_writeCell 26 = .ok (.iload_n 2, 1) := by decide +kernel
theorem dX1_writeCell_27 : decode cX1_writeCell 27 = .ok (.invokestatic 66, 3) := by decide +kernel
theorem dX1_writeCell_30 : decode cX1_writeCell 30 = .ok (.aload_n 0, 1) := by decide +kernel
theorem dX1_writeCell_31 : decode cX1_writeCell 31 = .ok (.getfield 21, 3) := by decide +kernel
theorem dX1_writeCell_34 : decode cX1_writeCell 34 = .ok (.aload_n 0, 1) := by decide +kernel
theorem dX1_writeCell_35 : decode cX1_writeCell 35 = .ok (.getfield 24, 3) := by decide +kernel
theorem dX1_writeCell_38 : decode cX1_writeCell 38 = .ok (.iload_n 1, 1) := by decide +kernel
theorem dX1_writeCell_39 : decode cX1_writeCell 39 = .ok (.invokestatic 66, 3) := by decide +kernel
theorem dX1_writeCell_42 : decode cX1_writeCell 42 = .ok (.aload_n 0, 1) := by decide +kernel
theorem dX1_writeCell_43 : decode cX1_writeCell 43 = .ok (.dup, 1) := by decide +kernel
theorem dX1_writeCell_44 : decode cX1_writeCell 44 = .ok (.getfield 24, 3) := by decide +kernel
theorem dX1_writeCell_47 : decode cX1_writeCell 47 = .ok (.iconst 1, 1) := by decide +kernel
theorem dX1_writeCell_48 : decode cX1_writeCell 48 = .ok (.iadd, 1) := by decide +kernel
theorem dX1_writeCell_49 : decode cX1_writeCell 49 = .ok (.putfield 24, 3) := by decide +kernel
theorem dX1_writeCell_52 : decode cX1_writeCell 52 = .ok (.aload_n 0, 1) := by decide +kernel
theorem dX1_writeCell_53 : decode cX1_writeCell 53 = .ok (.iload_n 1, 1) := by decide +kernel
theorem dX1_writeCell_54 : decode cX1_writeCell 54 = .ok (.iconst 1, 1) := by decide +kernel
theorem dX1_writeCell_55 : decode cX1_writeCell 55 = .ok (.iadd, 1) := by decide +kernel
theorem dX1_writeCell_56 : decode cX1_writeCell 56 = .ok (.bipush 32, 2) := by decide +kernel
theorem dX1_writeCell_58 : decode cX1_writeCell 58 = .ok (.irem, 1) := by decide +kernel
theorem dX1_writeCell_59 : decode cX1_writeCell 59 = .ok (.putfield 41, 3) := by decide +kernel
theorem dX1_writeCell_62 : decode cX1_writeCell 62 = .ok (.aload_n 0, 1) := by decide +kernel
theorem dX1_writeCell_63 : decode cX1_writeCell 63 = .ok (.dup, 1) := by decide +kernel
theorem dX1_writeCell_64 : decode cX1_writeCell 64 = .ok (.getfield 44, 3) := by decide +kernel
theorem dX1_writeCell_67 : decode cX1_writeCell 67 = .ok (.iconst 1, 1) := by decide +kernel
theorem dX1_writeCell_68 : decode cX1_writeCell 68 = .ok (.iadd, 1) := by decide +kernel
theorem dX1_writeCell_69 : decode cX1_writeCell 69 = .ok (.putfield 44, 3) := by decide +kernel
theorem dX1_writeCell_72 : decode cX1_writeCell 72 = .ok (.return_, 1) := by decide +kernel
theorem dX1_bringPlayer_0 : decode cX1_bringPlayer 0 = .ok (.aload_n 0, 1) := by decide +kernel
theorem dX1_bringPlayer_1 : decode cX1_bringPlayer 1 = .ok (.iload_n 1, 1) := by decide +kernel
theorem dX1_bringPlayer_2 : decode cX1_bringPlayer 2 = .ok (.putfield 50, 3) := by decide +kernel
theorem dX1_bringPlayer_5 : decode cX1_bringPlayer 5 = .ok (.aload_n 0, 1) := by decide +kernel
theorem dX1_bringPlayer_6 : decode cX1_bringPlayer 6 = .ok (.iconst 0, 1) := by decide +kernel
theorem dX1_bringPlayer_7 : decode cX1_bringPlayer 7 = .ok (.putfield 53, 3) := by decide +kernel
theorem dX1_bringPlayer_10 : decode cX1_bringPlayer 10 = .ok (.return_, 1) := by decide +kernel
theorem dX1_playCell_0 : decode cX1_playCell 0 = .ok (.aload_n 0, 1) := by decide +kernel
theorem dX1_playCell_1 : decode cX1_playCell 1 = .ok (.aload_n 0, 1) := by decide +kernel
theorem dX1_playCell_2 : decode cX1_playCell 2 = .ok (.getfield 50, 3) := by decide +kernel
theorem dX1_playCell_5 : decode cX1_playCell 5 = .ok (.aload_n 0, 1) := by decide +kernel
theorem dX1_playCell_6 : decode cX1_playCell 6 = .ok (.getfield 53, 3) := by decide +kernel
theorem dX1_playCell_9 : decode cX1_playCell 9 = .ok (.invokevirtual 111, 3) := by decide +kernel
theorem dX1_playCell_12 : decode cX1_playCell 12 = .ok (.istore_n 1, 1) := by decide +kernel
theorem dX1_playCell_13 : decode cX1_playCell 13 = .ok (.iload_n 1, 1) := by decide +kernel
theorem dX1_playCell_14 : decode cX1_playCell 14 = .ok (.iconst (-1), 1) := by decide +kernel
theorem dX1_playCell_15 : decode cX1_playCell 15 = .ok (.if_icmp .ne 5, 3) := by decide +kernel
theorem dX1_playCell_18 : decode cX1_playCell 18 = .ok (.iconst (-1), 1) := by decide +kernel
theorem dX1_playCell_19 : decode cX1_playCell 19 = .ok (.ireturn, 1) := by decide +kernel
theorem dX1_playCell_20 : decode cX1_playCell 20 = .ok (.aload_n 0, 1) := by decide +kernel
theorem dX1_playCell_21 : decode cX1_playCell 21 = .ok (.dup, 1) := by decide +kernel
theorem dX1_playCell_22 : decode cX1_playCell 22 = .ok (.getfield 53, 3) := by decide +kernel
theorem dX1_playCell_25 : decode cX1_playCell 25 = .ok (.iconst 1, 1) := by decide +kernel
theorem dX1_playCell_26 : decode cX1_playCell 26 = .ok (.iadd, 1) := by decide +kernel
theorem dX1_playCell_27 : decode cX1_playCell 27 = .ok (.putfield 53, 3) := by decide +kernel
theorem dX1_playCell_30 : decode cX1_playCell 30 = .ok (.aload_n 0, 1) := by decide +kernel
theorem dX1_playCell_31 : decode cX1_playCell 31 = .ok (.getfield 15, 3) := by decide +kernel
theorem dX1_playCell_34 : decode cX1_playCell 34 = .ok (.iload_n 1, 1) := by decide +kernel
theorem dX1_playCell_35 : decode cX1_playCell 35 = .ok (.invokestatic 62, 3) := by decide +kernel
theorem dX1_playCell_38 : decode cX1_playCell 38 = .ok (.ireturn, 1) := by decide +kernel
theorem dX1_stepBack_0 : decode cX1_stepBack 0 = .ok (.aload_n 0, 1) := by decide +kernel
theorem dX1_stepBack_1 : decode cX1_stepBack 1 = .ok (.iconst 0, 1) := by decide +kernel
theorem dX1_stepBack_2 : decode cX1_stepBack 2 = .ok (.aload_n 0, 1) := by decide +kernel
theorem dX1_stepBack_3 : decode cX1_stepBack 3 = .ok (.getfield 53, 3) := by decide +kernel
theorem dX1_stepBack_6 : decode cX1_stepBack 6 = .ok (.iload_n 1, 1) := by decide +kernel
theorem dX1_stepBack_7 : decode cX1_stepBack 7 = .ok (.isub, 1) := by decide +kernel
theorem dX1_stepBack_8 : decode cX1_stepBack 8 = .ok (.invokestatic 115, 3) := by decide +kernel
theorem dX1_stepBack_11 : decode cX1_stepBack 11 = .ok (.putfield 53, 3) := by decide +kernel
theorem dX1_stepBack_14 : decode cX1_stepBack 14 = .ok (.aload_n 0, 1) := by decide +kernel
theorem dX1_stepBack_15 : decode cX1_stepBack 15 = .ok (.getfield 53, 3) := by decide +kernel
theorem dX1_stepBack_18 : decode cX1_stepBack 18 = .ok (.ireturn, 1) := by decide +kernel
theorem dX1_correctedCells_0 : decode cX1_correctedCells 0 = .ok (.iconst 0, 1) := by decide +kernel
theorem dX1_correctedCells_1 : decode cX1_correctedCells 1 = .ok (.istore_n 1, 1) := by decide +kernel
theorem dX1_correctedCells_2 : decode cX1_correctedCells 2 = .ok (.iconst 0, 1) := by decide +kernel
theorem dX1_correctedCells_3 : decode cX1_correctedCells 3 = .ok (.istore_n 2, 1) := by decide +kernel
theorem dX1_correctedCells_4 : decode cX1_correctedCells 4 = .ok (.iload_n 2, 1) := by decide +kernel
theorem dX1_correctedCells_5 : decode cX1_correctedCells 5 = .ok (.bipush 32, 2) := by decide +kernel
theorem dX1_correctedCells_7 : decode cX1_correctedCells 7 = .ok (.if_icmp .ge 43, 3) := by decide +kernel
theorem dX1_correctedCells_10 : decode cX1_correctedCells 10 = .ok (.aload_n 0, 1) := by decide +kernel
theorem dX1_correctedCells_11 : decode cX1_correctedCells 11 = .ok (.getfield 9, 3) := by decide +kernel
theorem dX1_correctedCells_14 : decode cX1_correctedCells 14 = .ok (.iload_n 2, 1) := by decide +kernel
theorem dX1_correctedCells_15 : decode cX1_correctedCells 15 = .ok (.invokestatic 62, 3) := by decide +kernel
theorem dX1_correctedCells_18 : decode cX1_correctedCells 18 = .ok (.iconst (-1), 1) := by decide +kernel
theorem dX1_correctedCells_19 : decode cX1_correctedCells 19 = .ok (.if_icmp .eq 25, 3) := by decide +kernel
theorem dX1_correctedCells_22 : decode cX1_correctedCells 22 = .ok (.aload_n 0, 1) := by decide +kernel
theorem dX1_correctedCells_23 : decode cX1_correctedCells 23 = .ok (.getfield 15, 3) := by decide +kernel
theorem dX1_correctedCells_26 : decode cX1_correctedCells 26 = .ok (.iload_n 2, 1) := by decide +kernel
theorem dX1_correctedCells_27 : decode cX1_correctedCells 27 = .ok (.invokestatic 62, 3) := by decide +kernel
theorem dX1_correctedCells_30 : decode cX1_correctedCells 30 = .ok (.aload_n 0, 1) := by decide +kernel
theorem dX1_correctedCells_31 : decode cX1_correctedCells 31 = .ok (.getfield 18, 3) := by decide +kernel
theorem dX1_correctedCells_34 : decode cX1_correctedCells 34 = .ok (.iload_n 2, 1) := by decide +kernel
theorem dX1_correctedCells_35 : decode cX1_correctedCells 35 = .ok (.invokestatic 62, 3) := by decide +kernel
theorem dX1_correctedCells_38 : decode cX1_correctedCells 38 = .ok (.if_icmp .eq 6, 3) := by decide +kernel
theorem dX1_correctedCells_41 : decode cX1_correctedCells 41 = .ok (.iinc 1 1, 3) := by decide +kernel
theorem dX1_correctedCells_44 : decode cX1_correctedCells 44 = .ok (.iinc 2 1, 3) := by decide +kernel
theorem dX1_correctedCells_47 : decode cX1_correctedCells 47 = .ok (.goto (-43), 3) := by decide +kernel
theorem dX1_correctedCells_50 : decode cX1_correctedCells 50 = .ok (.iload_n 1, 1) := by decide +kernel
theorem dX1_correctedCells_51 : decode cX1_correctedCells 51 = .ok (.ireturn, 1) := by decide +kernel
end
section
theorem dX2_init_0 : decode cX2_init 0 = .ok (.aload_n 0, 1) := by decide +kernel
theorem dX2_init_1 : decode cX2_init 1 = .ok (.invokespecial 1, 3) := by decide +kernel
theorem dX2_init_4 : decode cX2_init 4 = .ok (.aload_n 0, 1) := by decide +kernel
theorem dX2_init_5 : decode cX2_init 5 = .ok (.new 7, 3) := by decide +kernel
theorem dX2_init_8 : decode cX2_init 8 = .ok (.dup, 1) := by decide +kernel
theorem dX2_init_9 : decode cX2_init 9 = .ok (.invokespecial 9, 3) := by decide +kernel
theorem dX2_init_12 : decode cX2_init 12 = .ok (.putfield 10, 3) := by decide +kernel
theorem dX2_init_15 : decode cX2_init 15 = .ok (.aload_n 0, 1) := by decide +kernel
theorem dX2_init_16 : decode cX2_init 16 = .ok (.bipush 6, 2) := by decide +kernel
theorem dX2_init_18 : decode cX2_init 18 = .ok (.anewarray 7, 3) := by decide +kernel
theorem dX2_init_21 : decode cX2_init 21 = .ok (.putfield 16, 3) := by decide +kernel
theorem dX2_init_24 : decode cX2_init 24 = .ok (.iconst 0, 1) := by decide +kernel
theorem dX2_init_25 : decode cX2_init 25 = .ok (.istore_n 1, 1) := by decide +kernel
theorem dX2_init_26 : decode cX2_init 26 = .ok (.iload_n 1, 1) := by decide +kernel
theorem dX2_init_27 : decode cX2_init 27 = .ok (.bipush 6, 2) := by decide +kernel
theorem dX2_init_29 : decode cX2_init 29 = .ok (.if_icmp .ge 22, 3) := by decide +kernel
theorem dX2_init_32 : decode cX2_init 32 = .ok (.aload_n 0, 1) := by decide +kernel
theorem dX2_init_33 : decode cX2_init 33 = .ok (.getfield 16, 3) := by decide +kernel
theorem dX2_init_36 : decode cX2_init 36 = .ok (.iload_n 1, 1) := by decide +kernel
theorem dX2_init_37 : decode cX2_init 37 = .ok (.new 7, 3) := by decide +kernel
theorem dX2_init_40 : decode cX2_init 40 = .ok (.dup, 1) := by decide +kernel
theorem dX2_init_41 : decode cX2_init 41 = .ok (.invokespecial 9, 3) := by decide +kernel
theorem dX2_init_44 : decode cX2_init 44 = .ok (.aastore, 1) := by decide +kernel
theorem dX2_init_45 : decode cX2_init 45 = .ok (.iinc 1 1, 3) := by decide +kernel
theorem dX2_init_48 : decode cX2_init 48 = .ok (.goto (-22), 3) := by decide +kernel
theorem dX2_init_51 : decode cX2_init 51 = .ok (.aload_n 0, 1) := by decide +kernel
theorem dX2_init_52 : decode cX2_init 52 = .ok (.iconst 0, 1) := by decide +kernel
theorem dX2_init_53 : decode cX2_init 53 = .ok (.putfield 20, 3) := by decide +kernel
theorem dX2_init_56 : decode cX2_init 56 = .ok (.aload_n 0, 1) := by decide +kernel
theorem dX2_init_57 : decode cX2_init 57 = .ok (.iconst 0, 1) := by decide +kernel
theorem dX2_init_58 : decode cX2_init 58 = .ok (.putfield 24, 3) := by decide +kernel
theorem dX2_init_61 : decode cX2_init 61 = .ok (.aload_n 0, 1) := by decide +kernel
theorem dX2_init_62 : decode cX2_init 62 = .ok (.new 27, 3) := by decide +kernel
theorem dX2_init_65 : decode cX2_init 65 = .ok (.dup, 1) := by decide +kernel
theorem dX2_init_66 : decode cX2_init 66 = .ok (.invokespecial 29, 3) := by decide +kernel
theorem dX2_init_69 : decode cX2_init 69 = .ok (.putfield 30, 3) := by decide +kernel
theorem dX2_init_72 : decode cX2_init 72 = .ok (.return_, 1) := by decide +kernel
theorem dX2_begin_0 : decode cX2_begin 0 = .ok (.aload_n 0, 1) := by decide +kernel
theorem dX2_begin_1 : decode cX2_begin 1 = .ok (.getfield 10, 3) := by decide +kernel
theorem dX2_begin_4 : decode cX2_begin 4 = .ok (.invokevirtual 34, 3) := by decide +kernel
theorem dX2_begin_7 : decode cX2_begin 7 = .ok (.ifCond .ne 13, 3) := by decide +kernel
theorem dX2_begin_10 : decode cX2_begin 10 = .ok (.new 38, 3) := by decide +kernel
theorem dX2_begin_13 : decode cX2_begin 13 = .ok (.dup, 1) := by decide +kernel
theorem dX2_begin_14 : decode cX2_begin 14 = .ok (.ldc 40, 2) := by decide +kernel
theorem dX2_begin_16 : decode cX2_begin 16 = .ok (.invokespecial 42, 3) := by decide +kernel
theorem dX2_begin_19 : decode cX2_begin 19 = .ok (.athrow, 1) := by decide +kernel
theorem dX2_begin_20 : decode cX2_begin 20 = .ok (.aload_n 0, 1) := by decide +kernel
theorem dX2_begin_21 : decode cX2_begin 21 = .ok (.invokevirtual 45, 3) := by decide +kernel
theorem dX2_begin_24 : decode cX2_begin 24 = .ok (.aload_n 0, 1) := by decide +kernel
theorem dX2_begin_25 : decode cX2_begin 25 = .ok (.getfield 10, 3) := by decide +kernel
theorem dX2_begin_28 : decode cX2_begin 28 = .ok (.invokevirtual 48, 3) := by decide +kernel
theorem dX2_begin_31 : decode cX2_begin 31 = .ok (.ireturn, 1) := by decide +kernel
theorem dX2_halt_0 : decode cX2_halt 0 = .ok (.aload_n 0, 1) := by decide +kernel
theorem dX2_halt_1 : decode cX2_halt 1 = .ok (.getfield 10, 3) := by decide +kernel
theorem dX2_halt_4 : decode cX2_halt 4 = .ok (.getfield 52, 3) := by decide +kernel
theorem dX2_halt_7 : decode cX2_halt 7 = .ok (.ifCond .ne 13, 3) := by decide +kernel
theorem dX2_halt_10 : decode cX2_halt 10 = .ok (.new 38, 3) := by decide +kernel
theorem dX2_halt_13 : decode cX2_halt 13 = .ok (.dup, 1) := by decide +kernel
theorem dX2_halt_14 : decode cX2_halt 14 = .ok (.ldc 56, 2) := by decide +kernel
theorem dX2_halt_16 : decode cX2_halt 16 = .ok (.invokespecial 42, 3) := by decide +kernel
theorem dX2_halt_19 : decode cX2_halt 19 = .ok (.athrow, 1) := by decide +kernel
theorem dX2_halt_20 : decode cX2_halt 20 = .ok (.aload_n 0, 1) := by decide +kernel
theorem dX2_halt_21 : decode cX2_halt 21 = .ok (.invokevirtual 45, 3) := by decide +kernel
theorem dX2_halt_24 : decode cX2_halt 24 = .ok (.aload_n 0, 1) := by decide +kernel
theorem dX2_halt_25 : decode cX2_halt 25 = .ok (.getfield 10, 3) := by decide +kernel
theorem dX2_halt_28 : decode cX2_halt 28 = .ok (.invokevirtual 58, 3) := by decide +kernel
theorem dX2_halt_31 : decode cX2_halt 31 = .ok (.ireturn, 1) := by decide +kernel
theorem dX2_speak_0 : decode cX2_speak 0 = .ok (.iload_n 1, 1) := by decide +kernel
theorem dX2_speak_1 : decode cX2_speak 1 = .ok (.invokestatic 61, 3) := by decide +kernel
theorem dX2_speak_4 : decode cX2_speak 4 = .ok (.aload_n 0, 1) := by decide +kernel
theorem dX2_speak_5 : decode cX2_speak 5 = .ok (.getfield 10, 3) := by decide +kernel
theorem dX2_speak_8 : decode cX2_speak 8 = .ok (.iconst 1, 1) := by decide +kernel
theorem dX2_speak_9 : decode cX2_speak 9 = .ok (.invokevirtual 65, 3) := by decide +kernel
theorem dX2_speak_12 : decode cX2_speak 12 = .ok (.ifCond .ne 13, 3) := by decide +kernel
theorem dX2_speak_15 : decode cX2_speak 15 = .ok (.new 38, 3) := by decide +kernel
theorem dX2_speak_18 : decode cX2_speak 18 = .ok (.dup, 1) := by decide +kernel
theorem dX2_speak_19 : decode cX2_speak 19 = .ok (.ldc 69, 2) := by decide +kernel
theorem dX2_speak_21 : decode cX2_speak 21 = .ok (.invokespecial 42, 3) := by decide +kernel
theorem dX2_speak_24 : decode cX2_speak 24 = .ok (.athrow, 1) := by decide +kernel
theorem dX2_speak_25 : decode cX2_speak 25 = .ok (.aload_n 0, 1) := by decide +kernel
theorem dX2_speak_26 : decode cX2_speak 26 = .ok (.invokevirtual 45, 3) := by decide +kernel
theorem dX2_speak_29 : decode cX2_speak 29 = .ok (.aload_n 0, 1) := by decide +kernel
theorem dX2_speak_30 : decode cX2_speak 30 = .ok (.getfield 10, 3) := by decide +kernel
theorem dX2_speak_33 : decode cX2_speak 33 = .ok (.iconst 1, 1) := by decide +kernel
theorem dX2_speak_34 : decode cX2_speak 34 = .ok (.iload_n 1, 1) := by decide +kernel
theorem dX2_speak_35 : decode cX2_speak 35 = .ok (.invokevirtual 71, 3) := by decide +kernel
theorem dX2_speak_38 : decode cX2_speak 38 = .ok (.ireturn, 1) := by decide +kernel
theorem dX2_setFlag_0 : decode cX2_setFlag 0 = .ok (.aload_n 0, 1) := by decide +kernel
theorem dX2_setFlag_1 : decode cX2_setFlag 1 = .ok (.iload_n 1, 1) := by decide +kernel
theorem dX2_setFlag_2 : decode cX2_setFlag 2 = .ok (.invokevirtual 75, 3) := by decide +kernel
theorem dX2_setFlag_5 : decode cX2_setFlag 5 = .ok (.aload_n 0, 1) := by decide +kernel
theorem dX2_setFlag_6 : decode cX2_setFlag 6 = .ok (.invokevirtual 45, 3) := by decide +kernel
theorem dX2_setFlag_9 : decode cX2_setFlag 9 = .ok (.aload_n 0, 1) := by decide +kernel
theorem dX2_setFlag_10 : decode cX2_setFlag 10 = .ok (.getfield 10, 3) := by decide +kernel
theorem dX2_setFlag_13 : decode cX2_setFlag 13 = .ok (.iload_n 1, 1) := by decide +kernel
theorem dX2_setFlag_14 : decode cX2_setFlag 14 = .ok (.invokevirtual 78, 3) := by decide +kernel
theorem dX2_setFlag_17 : decode cX2_setFlag 17 = .ok (.istore_n 3, 1) := by decide +kernel
theorem dX2_setFlag_18 : decode cX2_setFlag 18 = .ok (.aload_n 0, 1) := by decide +kernel
theorem dX2_setFlag_19 : decode cX2_setFlag 19 = .ok (.getfield 10, 3) := by decide +kernel
theorem dX2_setFlag_22 : decode cX2_setFlag 22 = .ok (.iload_n 1, 1) := by decide +kernel
theorem dX2_setFlag_23 : decode cX2_setFlag 23 = .ok (.iload_n 2, 1) := by decide +kernel
theorem dX2_setFlag_24 : decode cX2_setFlag 24 = .ok (.invokevirtual 81, 3) := by decide +kernel
theorem dX2_setFlag_27 : decode cX2_setFlag 27 = .ok (.iload_n 3, 1) := by decide +kernel
theorem dX2_setFlag_28 : decode cX2_setFlag 28 = .ok (.ireturn, 1) := by decide +kernel
theorem dX2_erase_0 : decode cX2_erase 0 = .ok (.aload_n 0, 1) := by decide +kernel
theorem dX2_erase_1 : decode cX2_erase 1 = .ok (.iload_n 1, 1) := by decide +kernel
theorem dX2_erase_2 : decode cX2_erase 2 = .ok (.invokevirtual 75, 3) := by decide +kernel
theorem dX2_erase_5 : decode cX2_erase 5 = .ok (.aload_n 0, 1) := by decide +kernel
theorem dX2_erase_6 : decode cX2_erase 6 = .ok (.getfield 10, 3) := by decide +kernel
theorem dX2_erase_9 : decode cX2_erase 9 = .ok (.iload_n 1, 1) := by decide +kernel
theorem dX2_erase_10 : decode cX2_erase 10 = .ok (.invokevirtual 78, 3) := by decide +kernel
theorem dX2_erase_13 : decode cX2_erase 13 = .ok (.ifCond .eq 13, 3) := by decide +kernel
theorem dX2_erase_16 : decode cX2_erase 16 = .ok (.new 38, 3) := by decide +kernel
theorem dX2_erase_19 : decode cX2_erase 19 = .ok (.dup, 1) := by decide +kernel
theorem dX2_erase_20 : decode cX2_erase 20 = .ok (.ldc 85, 2) := by decide +kernel
theorem dX2_erase_22 : decode cX2_erase 22 = .ok (.invokespecial 42, 3) := by decide +kernel
theorem dX2_erase_25 : decode cX2_erase 25 = .ok (.athrow, 1) := by decide +kernel
theorem dX2_erase_26 : decode cX2_erase 26 = .ok (.aload_n 0, 1) := by decide +kernel
theorem dX2_erase_27 : decode cX2_erase 27 = .ok (.invokevirtual 45, 3) := by decide +kernel
theorem dX2_erase_30 : decode cX2_erase 30 = .ok (.aload_n 0, 1) := by decide +kernel
theorem dX2_erase_31 : decode cX2_erase 31 = .ok (.getfield 10, 3) := by decide +kernel
theorem dX2_erase_34 : decode cX2_erase 34 = .ok (.iload_n 1, 1) := by decide +kernel
theorem dX2_erase_35 : decode cX2_erase 35 = .ok (.invokevirtual 87, 3) := by decide +kernel
theorem dX2_erase_38 : decode cX2_erase 38 = .ok (.ireturn, 1) := by decide +kernel
theorem dX2_moveHead_0 : decode cX2_moveHead 0 = .ok (.iload_n 1, 1) := by decide +kernel
theorem dX2_moveHead_1 : decode cX2_moveHead 1 = .ok (.invokestatic 91, 3) := by decide +kernel
theorem dX2_moveHead_4 : decode cX2_moveHead 4 = .ok (.aload_n 0, 1) := by decide +kernel
theorem dX2_moveHead_5 : decode cX2_moveHead 5 = .ok (.getfield 10, 3) := by decide +kernel
theorem dX2_moveHead_8 : decode cX2_moveHead 8 = .ok (.getfield 52, 3) := by decide +kernel
theorem dX2_moveHead_11 : decode cX2_moveHead 11 = .ok (.ifCond .eq 13, 3) := by decide +kernel
theorem dX2_moveHead_14 : decode cX2_moveHead 14 = .ok (.new 38, 3) := by decide +kernel
theorem dX2_moveHead_17 : decode cX2_moveHead 17 = .ok (.dup, 1) := by decide +kernel
theorem dX2_moveHead_18 : decode cX2_moveHead 18 = .ok (.ldc 94, 2) := by decide +kernel
theorem dX2_moveHead_20 : decode cX2_moveHead 20 = .ok (.invokespecial 42, 3) := by decide +kernel
theorem dX2_moveHead_23 : decode cX2_moveHead 23 = .ok (.athrow, 1) := by decide +kernel
theorem dX2_moveHead_24 : decode cX2_moveHead 24 = .ok (.aload_n 0, 1) := by decide +kernel
theorem dX2_moveHead_25 : decode cX2_moveHead 25 = .ok (.invokevirtual 45, 3) := by decide +kernel
theorem dX2_moveHead_28 : decode cX2_moveHead 28 = .ok (.aload_n 0, 1) := by decide +kernel
theorem dX2_moveHead_29 : decode cX2_moveHead 29 = .ok (.getfield 10, 3) := by decide +kernel
theorem dX2_moveHead_32 : decode cX2_moveHead 32 = .ok (.getfield 96, 3) := by decide +kernel
theorem dX2_moveHead_35 : decode cX2_moveHead 35 = .ok (.istore_n 2, 1) := by decide +kernel
theorem dX2_moveHead_36 : decode cX2_moveHead 36 = .ok (.aload_n 0, 1) := by decide +kernel
theorem dX2_moveHead_37 : decode cX2_moveHead 37 = .ok (.getfield 10, 3) := by decide +kernel
theorem dX2_moveHead_40 : decode cX2_moveHead 40 = .ok (.iload_n 1, 1) := by decide +kernel
theorem dX2_moveHead_41 : decode cX2_moveHead 41 = .ok (.putfield 96, 3) := by decide +kernel
theorem dX2_moveHead_44 : decode cX2_moveHead 44 = .ok (.iload_n 2, 1) := by decide +kernel
theorem dX2_moveHead_45 : decode cX2_moveHead 45 = .ok (.ireturn, 1) := by decide +kernel
theorem dX2_recordings_0 : decode cX2_recordings 0 = .ok (.aload_n 0, 1) := by decide +kernel
theorem dX2_recordings_1 : decode cX2_recordings 1 = .ok (.getfield 10, 3) := by decide +kernel
theorem dX2_recordings_4 : decode cX2_recordings 4 = .ok (.getfield 99, 3) := by decide +kernel
theorem dX2_recordings_7 : decode cX2_recordings 7 = .ok (.ireturn, 1) := by decide +kernel
theorem dX2_running_0 : decode cX2_running 0 = .ok (.aload_n 0, 1) := by decide +kernel
theorem dX2_running_1 : decode cX2_running 1 = .ok (.getfield 10, 3) := by decide +kernel
theorem dX2_running_4 : decode cX2_running 4 = .ok (.invokevirtual 102, 3) := by decide +kernel
theorem dX2_running_7 : decode cX2_running 7 = .ok (.ireturn, 1) := by decide +kernel
theorem dX2_head_0 : decode cX2_head 0 = .ok (.aload_n 0, 1) := by decide +kernel
theorem dX2_head_1 : decode cX2_head 1 = .ok (.getfield 10, 3) := by decide +kernel
theorem dX2_head_4 : decode cX2_head 4 = .ok (.getfield 96, 3) := by decide +kernel
theorem dX2_head_7 : decode cX2_head 7 = .ok (.ireturn, 1) := by decide +kernel
theorem dX2_length_0 : decode cX2_length 0 = .ok (.aload_n 0, 1) := by decide +kernel
theorem dX2_length_1 : decode cX2_length 1 = .ok (.iload_n 1, 1) := by decide +kernel
theorem dX2_length_2 : decode cX2_length 2 = .ok (.invokevirtual 75, 3) := by decide +kernel
theorem dX2_length_5 : decode cX2_length 5 = .ok (.aload_n 0, 1) := by decide +kernel
theorem dX2_length_6 : decode cX2_length 6 = .ok (.getfield 10, 3) := by decide +kernel
theorem dX2_length_9 : decode cX2_length 9 = .ok (.iload_n 1, 1) := by decide +kernel
theorem dX2_length_10 : decode cX2_length 10 = .ok (.invokevirtual 105, 3) := by decide +kernel
theorem dX2_length_13 : decode cX2_length 13 = .ok (.ireturn, 1) := by decide +kernel
theorem dX2_sound_0 : decode cX2_sound 0 = .ok (.aload_n 0, 1) := by decide +kernel
theorem dX2_sound_1 : decode cX2_sound 1 = .ok (.iload_n 1, 1) := by decide +kernel
theorem dX2_sound_2 : decode cX2_sound 2 = .ok (.iload_n 2, 1) := by decide +kernel
theorem dX2_sound_3 : decode cX2_sound 3 = .ok (.invokevirtual 108, 3) := by decide +kernel
theorem dX2_sound_6 : decode cX2_sound 6 = .ok (.aload_n 0, 1) := by decide +kernel
theorem dX2_sound_7 : decode cX2_sound 7 = .ok (.getfield 10, 3) := by decide +kernel
theorem dX2_sound_10 : decode cX2_sound 10 = .ok (.getfield 112, 3) := by decide +kernel
theorem dX2_sound_13 : decode cX2_sound 13 = .ok (.aload_n 0, 1) := by decide +kernel
theorem dX2_sound_14 : decode cX2_sound 14 = .ok (.getfield 10, 3) := by decide +kernel
theorem dX2_sound_17 : decode cX2_sound 17 = .ok (.iload_n 1, 1) := by decide +kernel
theorem dX2_sound_18 : decode cX2_sound 18 = .ok (.iload_n 2, 1) := by decide +kernel
theorem dX2_sound_19 : decode cX2_sound 19 = .ok (.invokevirtual 116, 3) := by decide +kernel
theorem dX2_sound_22 : decode cX2_sound 22 = .ok (.invokestatic 119, 3) := by decide +kernel
theorem dX2_sound_25 : decode cX2_sound 25 = .ok (.ireturn, 1) := by decide +kernel
theorem dX2_cellOf_0 : decode cX2_cellOf 0 = .ok (.aload_n 0, 1) := by decide +kernel
theorem dX2_cellOf_1 : decode cX2_cellOf 1 = .ok (.iload_n 1, 1) := by decide +kernel
theorem dX2_cellOf_2 : decode cX2_cellOf 2 = .ok (.iload_n 2, 1) := by decide +kernel
theorem dX2_cellOf_3 : decode cX2_cellOf 3 = .ok (.invokevirtual 108, 3) := by decide +kernel
theorem dX2_cellOf_6 : decode cX2_cellOf 6 = .ok (.aload_n 0, 1) := by decide +kernel
theorem dX2_cellOf_7 : decode cX2_cellOf 7 = .ok (.getfield 10, 3) := by decide +kernel
theorem dX2_cellOf_10 : decode cX2_cellOf 10 = .ok (.iload_n 1, 1) := by decide +kernel
theorem dX2_cellOf_11 : decode cX2_cellOf 11 = .ok (.iload_n 2, 1) := by decide +kernel
theorem dX2_cellOf_12 : decode cX2_cellOf 12 = .ok (.invokevirtual 116, 3) := by decide +kernel
theorem dX2_cellOf_15 : decode cX2_cellOf 15 = .ok (.ireturn, 1) := by decide +kernel
theorem dX2_hasFlag_0 : decode cX2_hasFlag 0 = .ok (.aload_n 0, 1) := by decide +kernel
theorem dX2_hasFlag_1 : decode cX2_hasFlag 1 = .ok (.iload_n 1, 1) := by decide +kernel
theorem dX2_hasFlag_2 : decode cX2_hasFlag 2 = .ok (.invokevirtual 75, 3) := by decide +kernel
theorem dX2_hasFlag_5 : decode cX2_hasFlag 5 = .ok (.aload_n 0, 1) := by decide +kernel
theorem dX2_hasFlag_6 : decode cX2_hasFlag 6 = .ok (.getfield 10, 3) := by decide +kernel
theorem dX2_hasFlag_9 : decode cX2_hasFlag 9 = .ok (.iload_n 1, 1) := by decide +kernel
theorem dX2_hasFlag_10 : decode cX2_hasFlag 10 = .ok (.invokevirtual 78, 3) := by decide +kernel
theorem dX2_hasFlag_13 : decode cX2_hasFlag 13 = .ok (.ireturn, 1) := by decide +kernel
theorem dX2_lost_0 : decode cX2_lost 0 = .ok (.aload_n 0, 1) := by decide +kernel
theorem dX2_lost_1 : decode cX2_lost 1 = .ok (.iload_n 1, 1) := by decide +kernel
theorem dX2_lost_2 : decode cX2_lost 2 = .ok (.invokevirtual 75, 3) := by decide +kernel
theorem dX2_lost_5 : decode cX2_lost 5 = .ok (.aload_n 0, 1) := by decide +kernel
theorem dX2_lost_6 : decode cX2_lost 6 = .ok (.getfield 10, 3) := by decide +kernel
theorem dX2_lost_9 : decode cX2_lost 9 = .ok (.getfield 123, 3) := by decide +kernel
theorem dX2_lost_12 : decode cX2_lost 12 = .ok (.iload_n 1, 1) := by decide +kernel
theorem dX2_lost_13 : decode cX2_lost 13 = .ok (.invokestatic 119, 3) := by decide +kernel
theorem dX2_lost_16 : decode cX2_lost 16 = .ok (.ireturn, 1) := by decide +kernel
theorem dX2_owner_0 : decode cX2_owner 0 = .ok (.iload_n 1, 1) := by decide +kernel
theorem dX2_owner_1 : decode cX2_owner 1 = .ok (.invokestatic 91, 3) := by decide +kernel
theorem dX2_owner_4 : decode cX2_owner 4 = .ok (.aload_n 0, 1) := by decide +kernel
theorem dX2_owner_5 : decode cX2_owner 5 = .ok (.getfield 10, 3) := by decide +kernel
theorem dX2_owner_8 : decode cX2_owner 8 = .ok (.getfield 126, 3) := by decide +kernel
theorem dX2_owner_11 : decode cX2_owner 11 = .ok (.iload_n 1, 1) := by decide +kernel
theorem dX2_owner_12 : decode cX2_owner 12 = .ok (.invokestatic 119, 3) := by decide +kernel
theorem dX2_owner_15 : decode cX2_owner 15 = .ok (.ireturn, 1) := by decide +kernel
theorem dX2_free_0 : decode cX2_free 0 = .ok (.bipush 32, 2) := by decide +kernel
theorem dX2_free_2 : decode cX2_free 2 = .ok (.aload_n 0, 1) := by decide +kernel
theorem dX2_free_3 : decode cX2_free 3 = .ok (.getfield 10, 3) := by decide +kernel
theorem dX2_free_6 : decode cX2_free 6 = .ok (.getfield 129, 3) := by decide +kernel
theorem dX2_free_9 : decode cX2_free 9 = .ok (.isub, 1) := by decide +kernel
theorem dX2_free_10 : decode cX2_free 10 = .ok (.ireturn, 1) := by decide +kernel
theorem dX2_spoken_0 : decode cX2_spoken 0 = .ok (.aload_n 0, 1) := by decide +kernel
theorem dX2_spoken_1 : decode cX2_spoken 1 = .ok (.getfield 10, 3) := by decide +kernel
theorem dX2_spoken_4 : decode cX2_spoken 4 = .ok (.getfield 132, 3) := by decide +kernel
theorem dX2_spoken_7 : decode cX2_spoken 7 = .ok (.ireturn, 1) := by decide +kernel
theorem dX2_gone_0 : decode cX2_gone 0 = .ok (.aload_n 0, 1) := by decide +kernel
theorem dX2_gone_1 : decode cX2_gone 1 = .ok (.getfield 10, 3) := by decide +kernel
theorem dX2_gone_4 : decode cX2_gone 4 = .ok (.getfield 135, 3) := by decide +kernel
theorem dX2_gone_7 : decode cX2_gone 7 = .ok (.ireturn, 1) := by decide +kernel
theorem dX2_usedShare_0 : decode cX2_usedShare 0 = .ok (.aload_n 0, 1) := by decide +kernel
theorem dX2_usedShare_1 : decode cX2_usedShare 1 = .ok (.getfield 10, 3) := by decide +kernel
theorem dX2_usedShare_4 : decode cX2_usedShare 4 = .ok (.getfield 129, 3) := by decide +kernel
theorem dX2_usedShare_7 : decode cX2_usedShare 7 = .ok (.i2d, 1) := by decide +kernel
theorem dX2_usedShare_8 : decode cX2_usedShare 8 = .ok (.ldc2_w 138, 3) := by decide +kernel
theorem dX2_usedShare_11 : decode cX2_usedShare 11 = .ok (.ddiv, 1) := by decide +kernel
theorem dX2_usedShare_12 : decode cX2_usedShare 12 = .ok (.dreturn, 1) := by decide +kernel
theorem dX2_go_0 : decode cX2_go 0 = .ok (.aload_n 0, 1) := by decide +kernel
theorem dX2_go_1 : decode cX2_go 1 = .ok (.iload_n 1, 1) := by decide +kernel
theorem dX2_go_2 : decode cX2_go 2 = .ok (.invokevirtual 75, 3) := by decide +kernel
theorem dX2_go_5 : decode cX2_go 5 = .ok (.aload_n 0, 1) := by decide +kernel
theorem dX2_go_6 : decode cX2_go 6 = .ok (.invokevirtual 45, 3) := by decide +kernel
theorem dX2_go_9 : decode cX2_go 9 = .ok (.aload_n 0, 1) := by decide +kernel
theorem dX2_go_10 : decode cX2_go 10 = .ok (.getfield 10, 3) := by decide +kernel
theorem dX2_go_13 : decode cX2_go 13 = .ok (.iload_n 1, 1) := by decide +kernel
theorem dX2_go_14 : decode cX2_go 14 = .ok (.invokevirtual 140, 3) := by decide +kernel
theorem dX2_go_17 : decode cX2_go 17 = .ok (.aload_n 0, 1) := by decide +kernel
theorem dX2_go_18 : decode cX2_go 18 = .ok (.getfield 10, 3) := by decide +kernel
theorem dX2_go_21 : decode cX2_go 21 = .ok (.iload_n 1, 1) := by decide +kernel
theorem dX2_go_22 : decode cX2_go 22 = .ok (.invokevirtual 105, 3) := by decide +kernel
theorem dX2_go_25 : decode cX2_go 25 = .ok (.ireturn, 1) := by decide +kernel
theorem dX2_play_0 : decode cX2_play 0 = .ok (.aload_n 0, 1) := by decide +kernel
theorem dX2_play_1 : decode cX2_play 1 = .ok (.invokevirtual 143, 3) := by decide +kernel
theorem dX2_play_4 : decode cX2_play 4 = .ok (.aload_n 0, 1) := by decide +kernel
theorem dX2_play_5 : decode cX2_play 5 = .ok (.invokevirtual 45, 3) := by decide +kernel
theorem dX2_play_8 : decode cX2_play 8 = .ok (.aload_n 0, 1) := by decide +kernel
theorem dX2_play_9 : decode cX2_play 9 = .ok (.getfield 10, 3) := by decide +kernel
theorem dX2_play_12 : decode cX2_play 12 = .ok (.invokevirtual 146, 3) := by decide +kernel
theorem dX2_play_15 : decode cX2_play 15 = .ok (.ireturn, 1) := by decide +kernel
theorem dX2_back_0 : decode cX2_back 0 = .ok (.iload_n 1, 1) := by decide +kernel
theorem dX2_back_1 : decode cX2_back 1 = .ok (.iconst 1, 1) := by decide +kernel
theorem dX2_back_2 : decode cX2_back 2 = .ok (.if_icmp .lt 9, 3) := by decide +kernel
theorem dX2_back_5 : decode cX2_back 5 = .ok (.iload_n 1, 1) := by decide +kernel
theorem dX2_back_6 : decode cX2_back 6 = .ok (.bipush 9, 2) := by decide +kernel
theorem dX2_back_8 : decode cX2_back 8 = .ok (.if_icmp .le 13, 3) := by decide +kernel
theorem dX2_back_11 : decode cX2_back 11 = .ok (.new 149, 3) := by decide +kernel
theorem dX2_back_14 : decode cX2_back 14 = .ok (.dup, 1) := by decide +kernel
theorem dX2_back_15 : decode cX2_back 15 = .ok (.ldc 151, 2) := by decide +kernel
theorem dX2_back_17 : decode cX2_back 17 = .ok (.invokespecial 153, 3) := by decide +kernel
theorem dX2_back_20 : decode cX2_back 20 = .ok (.athrow, 1) := by decide +kernel
theorem dX2_back_21 : decode cX2_back 21 = .ok (.aload_n 0, 1) := by decide +kernel
theorem dX2_back_22 : decode cX2_back 22 = .ok (.invokevirtual 143, 3) := by decide +kernel
theorem dX2_back_25 : decode cX2_back 25 = .ok (.aload_n 0, 1) := by decide +kernel
theorem dX2_back_26 : decode cX2_back 26 = .ok (.invokevirtual 45, 3) := by decide +kernel
theorem dX2_back_29 : decode cX2_back 29 = .ok (.aload_n 0, 1) := by decide +kernel
theorem dX2_back_30 : decode cX2_back 30 = .ok (.getfield 10, 3) := by decide +kernel
theorem dX2_back_33 : decode cX2_back 33 = .ok (.iload_n 1, 1) := by decide +kernel
theorem dX2_back_34 : decode cX2_back 34 = .ok (.invokevirtual 154, 3) := by decide +kernel
theorem dX2_back_37 : decode cX2_back 37 = .ok (.ireturn, 1) := by decide +kernel
theorem dX2_playing_0 : decode cX2_playing 0 = .ok (.aload_n 0, 1) := by decide +kernel
theorem dX2_playing_1 : decode cX2_playing 1 = .ok (.getfield 10, 3) := by decide +kernel
theorem dX2_playing_4 : decode cX2_playing 4 = .ok (.getfield 157, 3) := by decide +kernel
theorem dX2_playing_7 : decode cX2_playing 7 = .ok (.ireturn, 1) := by decide +kernel
theorem dX2_place_0 : decode cX2_place 0 = .ok (.aload_n 0, 1) := by decide +kernel
theorem dX2_place_1 : decode cX2_place 1 = .ok (.getfield 10, 3) := by decide +kernel
theorem dX2_place_4 : decode cX2_place 4 = .ok (.getfield 160, 3) := by decide +kernel
theorem dX2_place_7 : decode cX2_place 7 = .ok (.ireturn, 1) := by decide +kernel
theorem dX2_correct_0 : decode cX2_correct 0 = .ok (.aload_n 0, 1) := by decide +kernel
theorem dX2_correct_1 : decode cX2_correct 1 = .ok (.iload_n 1, 1) := by decide +kernel
theorem dX2_correct_2 : decode cX2_correct 2 = .ok (.iload_n 2, 1) := by decide +kernel
theorem dX2_correct_3 : decode cX2_correct 3 = .ok (.invokevirtual 108, 3) := by decide +kernel
theorem dX2_correct_6 : decode cX2_correct 6 = .ok (.aload_n 0, 1) := by decide +kernel
theorem dX2_correct_7 : decode cX2_correct 7 = .ok (.getfield 10, 3) := by decide +kernel
theorem dX2_correct_10 : decode cX2_correct 10 = .ok (.iload_n 1, 1) := by decide +kernel
theorem dX2_correct_11 : decode cX2_correct 11 = .ok (.iload_n 2, 1) := by decide +kernel
theorem dX2_correct_12 : decode cX2_correct 12 = .ok (.invokevirtual 116, 3) := by decide +kernel
theorem dX2_correct_15 : decode cX2_correct 15 = .ok (.istore 4, 2) := by decide +kernel
theorem dX2_correct_17 : decode cX2_correct 17 = .ok (.iload 4, 2) := by decide +kernel
theorem dX2_correct_19 : decode cX2_correct 19 = .ok (.invokestatic 91, 3) := by decide +kernel
theorem dX2_correct_22 : decode cX2_correct 22 = .ok (.iload_n 3, 1) := by decide +kernel
theorem dX2_correct_23 : decode cX2_correct 23 = .ok (.invokestatic 61, 3) := by decide +kernel
theorem dX2_correct_26 : decode cX2_correct 26 = .ok (.aload_n 0, 1) := by decide +kernel
theorem dX2_correct_27 : decode cX2_correct 27 = .ok (.getfield 10, 3) := by decide +kernel
theorem dX2_correct_30 : decode cX2_correct 30 = .ok (.iload_n 1, 1) := by decide +kernel
theorem dX2_correct_31 : decode cX2_correct 31 = .ok (.invokevirtual 78, 3) := by decide +kernel
theorem dX2_correct_34 : decode cX2_correct 34 = .ok (.ifCond .eq 13, 3) := by decide +kernel
theorem dX2_correct_37 : decode cX2_correct 37 = .ok (.new 38, 3) := by decide +kernel
theorem dX2_correct_40 : decode cX2_correct 40 = .ok (.dup, 1) := by decide +kernel
theorem dX2_correct_41 : decode cX2_correct 41 = .ok (.ldc 85, 2) := by decide +kernel
theorem dX2_correct_43 : decode cX2_correct 43 = .ok (.invokespecial 42, 3) := by decide +kernel
theorem dX2_correct_46 : decode cX2_correct 46 = .ok (.athrow, 1) := by decide +kernel
theorem dX2_correct_47 : decode cX2_correct 47 = .ok (.aload_n 0, 1) := by decide +kernel
theorem dX2_correct_48 : decode cX2_correct 48 = .ok (.invokevirtual 45, 3) := by decide +kernel
theorem dX2_correct_51 : decode cX2_correct 51 = .ok (.aload_n 0, 1) := by decide +kernel
theorem dX2_correct_52 : decode cX2_correct 52 = .ok (.getfield 10, 3) := by decide +kernel
theorem dX2_correct_55 : decode cX2_correct 55 = .ok (.getfield 112, 3) := by decide +kernel
theorem dX2_correct_58 : decode cX2_correct 58 = .ok (.iload 4, 2) := by decide +kernel
theorem dX2_correct_60 : decode cX2_correct 60 = .ok (.invokestatic 119, 3) := by decide +kernel
theorem dX2_correct_63 : decode cX2_correct 63 = .ok (.istore 5, 2) := by decide +kernel
theorem dX2_correct_65 : decode cX2_correct 65 = .ok (.aload_n 0, 1) := by decide +kernel
theorem dX2_correct_66 : decode cX2_correct 66 = .ok (.getfield 10, 3) := by decide +kernel
theorem dX2_correct_69 : decode cX2_correct 69 = .ok (.getfield 112, 3) := by decide +kernel
theorem dX2_correct_72 : decode cX2_correct 72 = .ok (.iload 4, 2) := by decide +kernel
theorem dX2_correct_74 : decode cX2_correct 74 = .ok (.iload_n 3, 1) := by decide +kernel
theorem dX2_correct_75 : decode cX2_correct 75 = .ok (.invokestatic 163, 3) := by decide +kernel
theorem dX2_correct_78 : decode cX2_correct 78 = .ok (.iload 5, 2) := by decide +kernel
theorem dX2_correct_80 : decode cX2_correct 80 = .ok (.ireturn, 1) := by decide +kernel
theorem dX2_carbon_0 : decode cX2_carbon 0 = .ok (.aload_n 0, 1) := by decide +kernel
theorem dX2_carbon_1 : decode cX2_carbon 1 = .ok (.iload_n 1, 1) := by decide +kernel
theorem dX2_carbon_2 : decode cX2_carbon 2 = .ok (.iload_n 2, 1) := by decide +kernel
theorem dX2_carbon_3 : decode cX2_carbon 3 = .ok (.invokevirtual 108, 3) := by decide +kernel
theorem dX2_carbon_6 : decode cX2_carbon 6 = .ok (.aload_n 0, 1) := by decide +kernel
theorem dX2_carbon_7 : decode cX2_carbon 7 = .ok (.getfield 10, 3) := by decide +kernel
theorem dX2_carbon_10 : decode cX2_carbon 10 = .ok (.getfield 167, 3) := by decide +kernel
theorem dX2_carbon_13 : decode cX2_carbon 13 = .ok (.aload_n 0, 1) := by decide +kernel
theorem dX2_carbon_14 : decode cX2_carbon 14 = .ok (.getfield 10, 3) := by decide +kernel
theorem dX2_carbon_17 : decode cX2_carbon 17 = .ok (.iload_n 1, 1) := by decide +kernel
theorem dX2_carbon_18 : decode cX2_carbon 18 = .ok (.iload_n 2, 1) := by decide +kernel
theorem dX2_carbon_19 : decode cX2_carbon 19 = .ok (.invokevirtual 116, 3) := by decide +kernel
theorem dX2_carbon_22 : decode cX2_carbon 22 = .ok (.invokestatic 119, 3) := by decide +kernel
theorem dX2_carbon_25 : decode cX2_carbon 25 = .ok (.ireturn, 1) := by decide +kernel
theorem dX2_corrected_0 : decode cX2_corrected 0 = .ok (.aload_n 0, 1) := by decide +kernel
theorem dX2_corrected_1 : decode cX2_corrected 1 = .ok (.getfield 10, 3) := by decide +kernel
theorem dX2_corrected_4 : decode cX2_corrected 4 = .ok (.invokevirtual 170, 3) := by decide +kernel
theorem dX2_corrected_7 : decode cX2_corrected 7 = .ok (.ireturn, 1) := by decide +kernel
theorem dX2_room_0 : decode cX2_room 0 = .ok (.aload_n 0, 1) := by decide +kernel
theorem dX2_room_1 : decode cX2_room 1 = .ok (.getfield 10, 3) := by decide +kernel
theorem dX2_room_4 : decode cX2_room 4 = .ok (.invokevirtual 173, 3) := by decide +kernel
theorem dX2_room_7 : decode cX2_room 7 = .ok (.ireturn, 1) := by decide +kernel
theorem dX2_nextLoser_0 : decode cX2_nextLoser 0 = .ok (.aload_n 0, 1) := by decide +kernel
theorem dX2_nextLoser_1 : decode cX2_nextLoser 1 = .ok (.getfield 10, 3) := by decide +kernel
theorem dX2_nextLoser_4 : decode cX2_nextLoser 4 = .ok (.invokevirtual 176, 3) := by decide +kernel
theorem dX2_nextLoser_7 : decode cX2_nextLoser 7 = .ok (.ireturn, 1) := by decide +kernel
theorem dX2_lossOf_0 : decode cX2_lossOf 0 = .ok (.aload_n 0, 1) := by decide +kernel
theorem dX2_lossOf_1 : decode cX2_lossOf 1 = .ok (.iload_n 1, 1) := by decide +kernel
theorem dX2_lossOf_2 : decode cX2_lossOf 2 = .ok (.invokevirtual 75, 3) := by decide +kernel
theorem dX2_lossOf_5 : decode cX2_lossOf 5 = .ok (.iload_n 2, 1) := by decide +kernel
theorem dX2_lossOf_6 : decode cX2_lossOf 6 = .ok (.invokestatic 179, 3) := by decide +kernel
theorem dX2_lossOf_9 : decode cX2_lossOf 9 = .ok (.aload_n 0, 1) := by decide +kernel
theorem dX2_lossOf_10 : decode cX2_lossOf 10 = .ok (.getfield 10, 3) := by decide +kernel
theorem dX2_lossOf_13 : decode cX2_lossOf 13 = .ok (.iload_n 1, 1) := by decide +kernel
theorem dX2_lossOf_14 : decode cX2_lossOf 14 = .ok (.iload_n 2, 1) := by decide +kernel
theorem dX2_lossOf_15 : decode cX2_lossOf 15 = .ok (.invokevirtual 182, 3) := by decide +kernel
theorem dX2_lossOf_18 : decode cX2_lossOf 18 = .ok (.ireturn, 1) := by decide +kernel
theorem dX2_goneAfter_0 : decode cX2_goneAfter 0 = .ok (.iload_n 1, 1) := by decide +kernel
theorem dX2_goneAfter_1 : decode cX2_goneAfter 1 = .ok (.invokestatic 179, 3) := by decide +kernel
theorem dX2_goneAfter_4 : decode cX2_goneAfter 4 = .ok (.iconst 0, 1) := by decide +kernel
theorem dX2_goneAfter_5 : decode cX2_goneAfter 5 = .ok (.istore_n 2, 1) := by decide +kernel
theorem dX2_goneAfter_6 : decode cX2_goneAfter 6 = .ok (.iconst 0, 1) := by decide +kernel
theorem dX2_goneAfter_7 : decode cX2_goneAfter 7 = .ok (.istore_n 3, 1) := by decide +kernel
theorem dX2_goneAfter_8 : decode cX2_goneAfter 8 = .ok (.iload_n 3, 1) := by decide +kernel
theorem dX2_goneAfter_9 : decode cX2_goneAfter 9 = .ok (.aload_n 0, 1) := by decide +kernel
theorem dX2_goneAfter_10 : decode cX2_goneAfter 10 = .ok (.getfield 10, 3) := by decide +kernel
theorem dX2_goneAfter_13 : decode cX2_goneAfter 13 = .ok (.getfield 99, 3) := by decide +kernel
theorem dX2_goneAfter_16 : decode cX2_goneAfter 16 = .ok (.if_icmp .ge 41, 3) := by decide +kernel
theorem dX2_goneAfter_19 : decode cX2_goneAfter 19 = .ok (.aload_n 0, 1) := by decide +kernel
theorem dX2_goneAfter_20 : decode cX2_goneAfter 20 = .ok (.getfield 10, 3) := by decide +kernel
theorem dX2_goneAfter_23 : decode cX2_goneAfter 23 = .ok (.iload_n 3, 1) := by decide +kernel
theorem dX2_goneAfter_24 : decode cX2_goneAfter 24 = .ok (.iload_n 1, 1) := by decide +kernel
theorem dX2_goneAfter_25 : decode cX2_goneAfter 25 = .ok (.invokevirtual 182, 3) := by decide +kernel
theorem dX2_goneAfter_28 : decode cX2_goneAfter 28 = .ok (.istore 4, 2) := by decide +kernel
theorem dX2_goneAfter_30 : decode cX2_goneAfter 30 = .ok (.iload 4, 2) := by decide +kernel
theorem dX2_goneAfter_32 : decode cX2_goneAfter 32 = .ok (.ifCond .le 19, 3) := by decide +kernel
theorem dX2_goneAfter_35 : decode cX2_goneAfter 35 = .ok (.iload 4, 2) := by decide +kernel
theorem dX2_goneAfter_37 : decode cX2_goneAfter 37 = .ok (.aload_n 0, 1) := by decide +kernel
theorem dX2_goneAfter_38 : decode cX2_goneAfter 38 = .ok (.getfield 10, 3) := by decide +kernel
theorem dX2_goneAfter_41 : decode cX2_goneAfter 41 = .ok (.iload_n 3, 1) := by decide +kernel
theorem dX2_goneAfter_42 : decode cX2_goneAfter 42 = .ok (.invokevirtual 105, 3) := by decide +kernel
theorem dX2_goneAfter_45 : decode cX2_goneAfter 45 = .ok (.if_icmp .ne 6, 3) := by decide +kernel
theorem dX2_goneAfter_48 : decode cX2_goneAfter 48 = .ok (.iinc 2 1, 3) := by decide +kernel
theorem dX2_goneAfter_51 : decode cX2_goneAfter 51 = .ok (.iinc 3 1, 3) := by decide +kernel
theorem dX2_goneAfter_54 : decode cX2_goneAfter 54 = .ok (.goto (-46), 3) := by decide +kernel
theorem dX2_goneAfter_57 : decode cX2_goneAfter 57 = .ok (.iload_n 2, 1) := by decide +kernel
theorem dX2_goneAfter_58 : decode cX2_goneAfter 58 = .ok (.ireturn, 1) := by decide +kernel
theorem dX2_append_0 : decode cX2_append 0 = .ok (.iload_n 1, 1) := by decide +kernel
theorem dX2_append_1 : decode cX2_append 1 = .ok (.bipush 33, 2) := by decide +kernel
theorem dX2_append_3 : decode cX2_append 3 = .ok (.if_icmp .lt 9, 3) := by decide +kernel
theorem dX2_append_6 : decode cX2_append 6 = .ok (.iload_n 1, 1) := by decide +kernel
theorem dX2_append_7 : decode cX2_append 7 = .ok (.bipush 126, 2) := by decide +kernel
theorem dX2_append_9 : decode cX2_append 9 = .ok (.if_icmp .le 13, 3) := by decide +kernel
theorem dX2_append_12 : decode cX2_append 12 = .ok (.new 149, 3) := by decide +kernel
theorem dX2_append_15 : decode cX2_append 15 = .ok (.dup, 1) := by decide +kernel
theorem dX2_append_16 : decode cX2_append 16 = .ok (.ldc 185, 2) := by decide +kernel
theorem dX2_append_18 : decode cX2_append 18 = .ok (.invokespecial 153, 3) := by decide +kernel
theorem dX2_append_21 : decode cX2_append 21 = .ok (.athrow, 1) := by decide +kernel
theorem dX2_append_22 : decode cX2_append 22 = .ok (.aload_n 0, 1) := by decide +kernel
theorem dX2_append_23 : decode cX2_append 23 = .ok (.getfield 30, 3) := by decide +kernel
theorem dX2_append_26 : decode cX2_append 26 = .ok (.getfield 187, 3) := by decide +kernel
theorem dX2_append_29 : decode cX2_append 29 = .ok (.bipush 60, 2) := by decide +kernel
theorem dX2_append_31 : decode cX2_append 31 = .ok (.if_icmp .lt 13, 3) := by decide +kernel
theorem dX2_append_34 : decode cX2_append 34 = .ok (.new 38, 3) := by decide +kernel
theorem dX2_append_37 : decode cX2_append 37 = .ok (.dup, 1) := by decide +kernel
theorem dX2_append_38 : decode cX2_append 38 = .ok (.ldc 190, 2) := by decide +kernel
theorem dX2_append_40 : decode cX2_append 40 = .ok (.invokespecial 42, 3) := by decide +kernel
theorem dX2_append_43 : decode cX2_append 43 = .ok (.athrow, 1) := by decide +kernel
theorem dX2_append_44 : decode cX2_append 44 = .ok (.aload_n 0, 1) := by decide +kernel
theorem dX2_append_45 : decode cX2_append 45 = .ok (.getfield 30, 3) := by decide +kernel
theorem dX2_append_48 : decode cX2_append 48 = .ok (.iload_n 1, 1) := by decide +kernel
theorem dX2_append_49 : decode cX2_append 49 = .ok (.invokevirtual 192, 3) := by decide +kernel
theorem dX2_append_52 : decode cX2_append 52 = .ok (.aload_n 0, 1) := by decide +kernel
theorem dX2_append_53 : decode cX2_append 53 = .ok (.getfield 30, 3) := by decide +kernel
theorem dX2_append_56 : decode cX2_append 56 = .ok (.getfield 187, 3) := by decide +kernel
theorem dX2_append_59 : decode cX2_append 59 = .ok (.ireturn, 1) := by decide +kernel
theorem dX2_clearText_0 : decode cX2_clearText 0 = .ok (.aload_n 0, 1) := by decide +kernel
theorem dX2_clearText_1 : decode cX2_clearText 1 = .ok (.getfield 30, 3) := by decide +kernel
theorem dX2_clearText_4 : decode cX2_clearText 4 = .ok (.getfield 187, 3) := by decide +kernel
theorem dX2_clearText_7 : decode cX2_clearText 7 = .ok (.istore_n 1, 1) := by decide +kernel
theorem dX2_clearText_8 : decode cX2_clearText 8 = .ok (.aload_n 0, 1) := by decide +kernel
theorem dX2_clearText_9 : decode cX2_clearText 9 = .ok (.getfield 30, 3) := by decide +kernel
theorem dX2_clearText_12 : decode cX2_clearText 12 = .ok (.iconst 0, 1) := by decide +kernel
theorem dX2_clearText_13 : decode cX2_clearText 13 = .ok (.putfield 187, 3) := by decide +kernel
theorem dX2_clearText_16 : decode cX2_clearText 16 = .ok (.iload_n 1, 1) := by decide +kernel
theorem dX2_clearText_17 : decode cX2_clearText 17 = .ok (.ireturn, 1) := by decide +kernel
theorem dX2_firstError_0 : decode cX2_firstError 0 = .ok (.aload_n 0, 1) := by decide +kernel
theorem dX2_firstError_1 : decode cX2_firstError 1 = .ok (.getfield 30, 3) := by decide +kernel
theorem dX2_firstError_4 : decode cX2_firstError 4 = .ok (.invokevirtual 195, 3) := by decide +kernel
theorem dX2_firstError_7 : decode cX2_firstError 7 = .ok (.ireturn, 1) := by decide +kernel
theorem dX2_run_0 : decode cX2_run 0 = .ok (.aload_n 0, 1) := by decide +kernel
theorem dX2_run_1 : decode cX2_run 1 = .ok (.getfield 30, 3) := by decide +kernel
theorem dX2_run_4 : decode cX2_run 4 = .ok (.invokevirtual 198, 3) := by decide +kernel
theorem dX2_run_7 : decode cX2_run 7 = .ok (.ifCond .ne 13, 3) := by decide +kernel
theorem dX2_run_10 : decode cX2_run 10 = .ok (.new 149, 3) := by decide +kernel
theorem dX2_run_13 : decode cX2_run 13 = .ok (.dup, 1) := by decide +kernel
theorem dX2_run_14 : decode cX2_run 14 = .ok (.ldc 201, 2) := by decide +kernel
theorem dX2_run_16 : decode cX2_run 16 = .ok (.invokespecial 153, 3) := by decide +kernel
theorem dX2_run_19 : decode cX2_run 19 = .ok (.athrow, 1) := by decide +kernel
theorem dX2_run_20 : decode cX2_run 20 = .ok (.aload_n 0, 1) := by decide +kernel
theorem dX2_run_21 : decode cX2_run 21 = .ok (.invokevirtual 45, 3) := by decide +kernel
theorem dX2_run_24 : decode cX2_run 24 = .ok (.aload_n 0, 1) := by decide +kernel
theorem dX2_run_25 : decode cX2_run 25 = .ok (.invokevirtual 203, 3) := by decide +kernel
theorem dX2_run_28 : decode cX2_run 28 = .ok (.istore_n 1, 1) := by decide +kernel
theorem dX2_run_29 : decode cX2_run 29 = .ok (.aload_n 0, 1) := by decide +kernel
theorem dX2_run_30 : decode cX2_run 30 = .ok (.getfield 30, 3) := by decide +kernel
theorem dX2_run_33 : decode cX2_run 33 = .ok (.iconst 0, 1) := by decide +kernel
theorem dX2_run_34 : decode cX2_run 34 = .ok (.putfield 187, 3) := by decide +kernel
theorem dX2_run_37 : decode cX2_run 37 = .ok (.iload_n 1, 1) := by decide +kernel
theorem dX2_run_38 : decode cX2_run 38 = .ok (.ireturn, 1) := by decide +kernel
theorem dX2_undo_0 : decode cX2_undo 0 = .ok (.aload_n 0, 1) := by decide +kernel
theorem dX2_undo_1 : decode cX2_undo 1 = .ok (.getfield 24, 3) := by decide +kernel
theorem dX2_undo_4 : decode cX2_undo 4 = .ok (.ifCond .ne 13, 3) := by decide +kernel
theorem dX2_undo_7 : decode cX2_undo 7 = .ok (.new 38, 3) := by decide +kernel
theorem dX2_undo_10 : decode cX2_undo 10 = .ok (.dup, 1) := by decide +kernel
theorem dX2_undo_11 : decode cX2_undo 11 = .ok (.ldc 206, 2) := by decide +kernel
theorem dX2_undo_13 : decode cX2_undo 13 = .ok (.invokespecial 42, 3) := by decide +kernel
theorem dX2_undo_16 : decode cX2_undo 16 = .ok (.athrow, 1) := by decide +kernel
theorem dX2_undo_17 : decode cX2_undo 17 = .ok (.aload_n 0, 1) := by decide +kernel
theorem dX2_undo_18 : decode cX2_undo 18 = .ok (.aload_n 0, 1) := by decide +kernel
theorem dX2_undo_19 : decode cX2_undo 19 = .ok (.getfield 20, 3) := by decide +kernel
theorem dX2_undo_22 : decode cX2_undo 22 = .ok (.ifCond .ne 7, 3) := by decide +kernel
theorem dX2_undo_25 : decode cX2_undo 25 = .ok (.iconst 5, 1) := by decide +kernel
theorem dX2_undo_26 : decode cX2_undo 26 = .ok (.goto 9, 3) := by decide +kernel
theorem dX2_undo_29 : decode cX2_undo 29 = .ok (.aload_n 0, 1) := by decide +kernel
theorem dX2_undo_30 : decode cX2_undo 30 = .ok (.getfield 20, 3) := by decide +kernel
theorem dX2_undo_33 : decode cX2_undo 33 = .ok (.iconst 1, 1) := by decide +kernel
theorem dX2_undo_34 : decode cX2_undo 34 = .ok (.isub, 1) := by decide +kernel
theorem dX2_undo_35 : decode cX2_undo 35 = .ok (.putfield 20, 3) := by decide +kernel
theorem dX2_undo_38 : decode cX2_undo 38 = .ok (.aload_n 0, 1) := by decide +kernel
theorem dX2_undo_39 : decode cX2_undo 39 = .ok (.dup, 1) := by decide +kernel
theorem dX2_undo_40 : decode cX2_undo 40 = .ok (.getfield 24, 3) := by decide +kernel
theorem dX2_undo_43 : decode cX2_undo 43 = .ok (.iconst 1, 1) := by decide +kernel
theorem dX2_undo_44 : decode cX2_undo 44 = .ok (.isub, 1) := by decide +kernel
theorem dX2_undo_45 : decode cX2_undo 45 = .ok (.putfield 24, 3) := by decide +kernel
theorem dX2_undo_48 : decode cX2_undo 48 = .ok (.aload_n 0, 1) := by decide +kernel
theorem dX2_undo_49 : decode cX2_undo 49 = .ok (.aload_n 0, 1) := by decide +kernel
theorem dX2_undo_50 : decode cX2_undo 50 = .ok (.getfield 20, 3) := by decide +kernel
theorem dX2_undo_53 : decode cX2_undo 53 = .ok (.invokevirtual 208, 3) := by decide +kernel
theorem dX2_undo_56 : decode cX2_undo 56 = .ok (.astore_n 1, 1) := by decide +kernel
theorem dX2_undo_57 : decode cX2_undo 57 = .ok (.aload_n 1, 1) := by decide +kernel
theorem dX2_undo_58 : decode cX2_undo 58 = .ok (.ifnull 11, 3) := by decide +kernel
theorem dX2_undo_61 : decode cX2_undo 61 = .ok (.aload_n 0, 1) := by decide +kernel
theorem dX2_undo_62 : decode cX2_undo 62 = .ok (.getfield 10, 3) := by decide +kernel
theorem dX2_undo_65 : decode cX2_undo 65 = .ok (.aload_n 1, 1) := by decide +kernel
theorem dX2_undo_66 : decode cX2_undo 66 = .ok (.invokevirtual 212, 3) := by decide +kernel
theorem dX2_undo_69 : decode cX2_undo 69 = .ok (.aload_n 0, 1) := by decide +kernel
theorem dX2_undo_70 : decode cX2_undo 70 = .ok (.getfield 24, 3) := by decide +kernel
theorem dX2_undo_73 : decode cX2_undo 73 = .ok (.ireturn, 1) := by decide +kernel
theorem dX2_savedStates_0 : decode cX2_savedStates 0 = .ok (.aload_n 0, 1) := by decide +kernel
theorem dX2_savedStates_1 : decode cX2_savedStates 1 = .ok (.getfield 24, 3) := by decide +kernel
theorem dX2_savedStates_4 : decode cX2_savedStates 4 = .ok (.ireturn, 1) := by decide +kernel
theorem dX2_digest_0 : decode cX2_digest 0 = .ok (.ldc2_w 216, 3) := by decide +kernel
theorem dX2_digest_3 : decode cX2_digest 3 = .ok (.lstore_n 1, 1) := by decide +kernel
theorem dX2_digest_4 : decode cX2_digest 4 = .ok (.lload_n 1, 1) := by decide +kernel
theorem dX2_digest_5 : decode cX2_digest 5 = .ok (.aload_n 0, 1) := by decide +kernel
theorem dX2_digest_6 : decode cX2_digest 6 = .ok (.invokevirtual 218, 3) := by decide +kernel
theorem dX2_digest_9 : decode cX2_digest 9 = .ok (.i2l, 1) := by decide +kernel
theorem dX2_digest_10 : decode cX2_digest 10 = .ok (.invokestatic 221, 3) := by decide +kernel
theorem dX2_digest_13 : decode cX2_digest 13 = .ok (.lstore_n 1, 1) := by decide +kernel
theorem dX2_digest_14 : decode cX2_digest 14 = .ok (.lload_n 1, 1) := by decide +kernel
theorem dX2_digest_15 : decode cX2_digest 15 = .ok (.aload_n 0, 1) := by decide +kernel
theorem dX2_digest_16 : decode cX2_digest 16 = .ok (.invokevirtual 225, 3) := by decide +kernel
theorem dX2_digest_19 : decode cX2_digest 19 = .ok (.i2l, 1) := by decide +kernel
theorem dX2_digest_20 : decode cX2_digest 20 = .ok (.invokestatic 221, 3) := by decide +kernel
theorem dX2_digest_23 : decode cX2_digest 23 = .ok (.lstore_n 1, 1) := by decide +kernel
theorem dX2_digest_24 : decode cX2_digest 24 = .ok (.lload_n 1, 1) := by decide +kernel
theorem dX2_digest_25 : decode cX2_digest 25 = .ok (.aload_n 0, 1) := by decide +kernel
theorem dX2_digest_26 : decode cX2_digest 26 = .ok (.invokevirtual 228, 3) := by decide +kernel
theorem dX2_digest_29 : decode cX2_digest 29 = .ok (.i2l, 1) := by decide +kernel
theorem dX2_digest_30 : decode cX2_digest 30 = .ok (.invokestatic 221, 3) := by decide +kernel
theorem dX2_digest_33 : decode cX2_digest 33 = .ok (.lstore_n 1, 1) := by decide +kernel
theorem dX2_digest_34 : decode cX2_digest 34 = .ok (.lload_n 1, 1) := by decide +kernel
theorem dX2_digest_35 : decode cX2_digest 35 = .ok (.aload_n 0, 1) := by decide +kernel
theorem dX2_digest_36 : decode cX2_digest 36 = .ok (.invokevirtual 230, 3) := by decide +kernel
theorem dX2_digest_39 : decode cX2_digest 39 = .ok (.i2l, 1) := by decide +kernel
theorem dX2_digest_40 : decode cX2_digest 40 = .ok (.invokestatic 221, 3) := by decide +kernel
theorem dX2_digest_43 : decode cX2_digest 43 = .ok (.lstore_n 1, 1) := by decide +kernel
theorem dX2_digest_44 : decode cX2_digest 44 = .ok (.lload_n 1, 1) := by decide +kernel
theorem dX2_digest_45 : decode cX2_digest 45 = .ok (.aload_n 0, 1) := by decide +kernel
theorem dX2_digest_46 : decode cX2_digest 46 = .ok (.invokevirtual 233, 3) := by decide +kernel
theorem dX2_digest_49 : decode cX2_digest 49 = .ok (.i2l, 1) := by decide +kernel
theorem dX2_digest_50 : decode cX2_digest 50 = .ok (.invokestatic 221, 3) := by decide +kernel
theorem dX2_digest_53 : decode cX2_digest 53 = .ok (.lstore_n 1, 1) := by decide +kernel
theorem dX2_digest_54 : decode cX2_digest 54 = .ok (.lload_n 1, 1) := by decide +kernel
theorem dX2_digest_55 : decode cX2_digest 55 = .ok (.aload_n 0, 1) := by decide +kernel
theorem dX2_digest_56 : decode cX2_digest 56 = .ok (.invokevirtual 235, 3) := by decide +kernel
theorem dX2_digest_59 : decode cX2_digest 59 = .ok (.i2l, 1) := by decide +kernel
theorem dX2_digest_60 : decode cX2_digest 60 = .ok (.invokestatic 221, 3) := by decide +kernel
theorem dX2_digest_63 : decode cX2_digest 63 = .ok (.lstore_n 1, 1) := by decide +kernel
theorem dX2_digest_64 : decode cX2_digest 64 = .ok (.lload_n 1, 1) := by decide +kernel
theorem dX2_digest_65 : decode cX2_digest 65 = .ok (.aload_n 0, 1) := by decide +kernel
theorem dX2_digest_66 : decode cX2_digest 66 = .ok (.invokevirtual 237, 3) := by decide +kernel
theorem dX2_digest_69 : decode cX2_digest 69 = .ok (.i2l, 1) := by decide +kernel
theorem dX2_digest_70 : decode cX2_digest 70 = .ok (.invokestatic 221, 3) := by decide +kernel
theorem dX2_digest_73 : decode cX2_digest 73 = .ok (.lstore_n 1, 1) := by decide +kernel
theorem dX2_digest_74 : decode cX2_digest 74 = .ok (.lload_n 1, 1) := by decide +kernel
theorem dX2_digest_75 : decode cX2_digest 75 = .ok (.aload_n 0, 1) := by decide +kernel
theorem dX2_digest_76 : decode cX2_digest 76 = .ok (.invokevirtual 240, 3) := by decide +kernel
theorem dX2_digest_79 : decode cX2_digest 79 = .ok (.i2l, 1) := by decide +kernel
theorem dX2_digest_80 : decode cX2_digest 80 = .ok (.invokestatic 221, 3) := by decide +kernel
theorem dX2_digest_83 : decode cX2_digest 83 = .ok (.lstore_n 1, 1) := by decide +kernel
theorem dX2_digest_84 : decode cX2_digest 84 = .ok (.lload_n 1, 1) := by decide +kernel
theorem dX2_digest_85 : decode cX2_digest 85 = .ok (.aload_n 0, 1) := by decide +kernel
theorem dX2_digest_86 : decode cX2_digest 86 = .ok (.invokevirtual 242, 3) := by decide +kernel
theorem dX2_digest_89 : decode cX2_digest 89 = .ok (.i2l, 1) := by decide +kernel
theorem dX2_digest_90 : decode cX2_digest 90 = .ok (.invokestatic 221, 3) := by decide +kernel
theorem dX2_digest_93 : decode cX2_digest 93 = .ok (.lstore_n 1, 1) := by decide +kernel
theorem dX2_digest_94 : decode cX2_digest 94 = .ok (.lload_n 1, 1) := by decide +kernel
theorem dX2_digest_95 : decode cX2_digest 95 = .ok (.aload_n 0, 1) := by decide +kernel
theorem dX2_digest_96 : decode cX2_digest 96 = .ok (.invokevirtual 245, 3) := by decide +kernel
theorem dX2_digest_99 : decode cX2_digest 99 = .ok (.i2l, 1) := by decide +kernel
theorem dX2_digest_100 : decode cX2_digest 100 = .ok (.invokestatic 221, 3) := by decide +kernel
theorem dX2_digest_103 : decode cX2_digest 103 = .ok (.lstore_n 1, 1) := by decide +kernel
theorem dX2_digest_104 : decode cX2_digest 104 = .ok (.lload_n 1, 1) := by decide +kernel
theorem dX2_digest_105 : decode cX2_digest 105 = .ok (.aload_n 0, 1) := by decide +kernel
theorem dX2_digest_106 : decode cX2_digest 106 = .ok (.invokevirtual 248, 3) := by decide +kernel
theorem dX2_digest_109 : decode cX2_digest 109 = .ok (.i2l, 1) := by decide +kernel
theorem dX2_digest_110 : decode cX2_digest 110 = .ok (.invokestatic 221, 3) := by decide +kernel
theorem dX2_digest_113 : decode cX2_digest 113 = .ok (.lstore_n 1, 1) := by decide +kernel
theorem dX2_digest_114 : decode cX2_digest 114 = .ok (.iconst 0, 1) := by decide +kernel
theorem dX2_digest_115 : decode cX2_digest 115 = .ok (.istore_n 3, 1) := by decide +kernel
theorem dX2_digest_116 : decode cX2_digest 116 = .ok (.iload_n 3, 1) := by decide +kernel
theorem dX2_digest_117 : decode cX2_digest 117 = .ok (.aload_n 0, 1) := by decide +kernel
theorem dX2_digest_118 : decode cX2_digest 118 = .ok (.getfield 10, 3) := by decide +kernel
theorem dX2_digest_121 : decode cX2_digest 121 = .ok (.getfield 99, 3) := by decide +kernel
theorem dX2_digest_124 : decode cX2_digest 124 = .ok (.if_icmp .ge 16, 3) := by decide +kernel
theorem dX2_digest_127 : decode cX2_digest 127 = .ok (.aload_n 0, 1) := by decide +kernel
theorem dX2_digest_128 : decode cX2_digest 128 = .ok (.lload_n 1, 1) := by decide +kernel
theorem dX2_digest_129 : decode cX2_digest 129 = .ok (.iload_n 3, 1) := by decide +kernel
theorem dX2_digest_130 : decode cX2_digest 130 = .ok (.invokevirtual 251, 3) := by decide +kernel
theorem dX2_digest_133 : decode cX2_digest 133 = .ok (.lstore_n 1, 1) := by decide +kernel
theorem dX2_digest_134 : decode cX2_digest 134 = .ok (.iinc 3 1, 3) := by decide +kernel
theorem dX2_digest_137 : decode cX2_digest 137 = .ok (.goto (-21), 3) := by decide +kernel
theorem dX2_digest_140 : decode cX2_digest 140 = .ok (.iconst 0, 1) := by decide +kernel
theorem dX2_digest_141 : decode cX2_digest 141 = .ok (.istore_n 3, 1) := by decide +kernel
theorem dX2_digest_142 : decode cX2_digest 142 = .ok (.iload_n 3, 1) := by decide +kernel
theorem dX2_digest_143 : decode cX2_digest 143 = .ok (.bipush 32, 2) := by decide +kernel
theorem dX2_digest_145 : decode cX2_digest 145 = .ok (.if_icmp .ge 26, 3) := by decide +kernel
theorem dX2_digest_148 : decode cX2_digest 148 = .ok (.lload_n 1, 1) := by decide +kernel
theorem dX2_digest_149 : decode cX2_digest 149 = .ok (.aload_n 0, 1) := by decide +kernel
theorem dX2_digest_150 : decode cX2_digest 150 = .ok (.getfield 10, 3) := by decide +kernel
theorem dX2_digest_153 : decode cX2_digest 153 = .ok (.getfield 126, 3) := by decide +kernel
theorem dX2_digest_156 : decode cX2_digest 156 = .ok (.iload_n 3, 1) := by decide +kernel
theorem dX2_digest_157 : decode cX2_digest 157 = .ok (.invokestatic 119, 3) := by decide +kernel
theorem dX2_digest_160 : decode cX2_digest 160 = .ok (.i2l, 1) := by decide +kernel
theorem dX2_digest_161 : decode cX2_digest 161 = .ok (.invokestatic 221, 3) := by decide +kernel
theorem dX2_digest_164 : decode cX2_digest 164 = .ok (.lstore_n 1, 1) := by decide +kernel
theorem dX2_digest_165 : decode cX2_digest 165 = .ok (.iinc 3 1, 3) := by decide +kernel
theorem dX2_digest_168 : decode cX2_digest 168 = .ok (.goto (-26), 3) := by decide +kernel
theorem dX2_digest_171 : decode cX2_digest 171 = .ok (.lload_n 1, 1) := by decide +kernel
theorem dX2_digest_172 : decode cX2_digest 172 = .ok (.lreturn, 1) := by decide +kernel
theorem dX2_withRecording_0 : decode cX2_withRecording 0 = .ok (.lload_n 1, 1) := by decide +kernel
theorem dX2_withRecording_1 : decode cX2_withRecording 1 = .ok (.aload_n 0, 1) := by decide +kernel
theorem dX2_withRecording_2 : decode cX2_withRecording 2 = .ok (.getfield 10, 3) := by decide +kernel
theorem dX2_withRecording_5 : decode cX2_withRecording 5 = .ok (.iload_n 3, 1) := by decide +kernel
theorem dX2_withRecording_6 : decode cX2_withRecording 6 = .ok (.invokevirtual 105, 3) := by decide +kernel
theorem dX2_withRecording_9 : decode cX2_withRecording 9 = .ok (.i2l, 1) := by decide +kernel
theorem dX2_withRecording_10 : decode cX2_withRecording 10 = .ok (.invokestatic 221, 3) := by decide +kernel
theorem dX2_withRecording_13 : decode cX2_withRecording 13 = .ok (.lstore 4, 2) := by decide +kernel
theorem dX2_withRecording_15 : decode cX2_withRecording 15 = .ok (.lload 4, 2) := by decide +kernel
theorem dX2_withRecording_17 : decode cX2_withRecording 17 = .ok (.aload_n 0, 1) := by decide +kernel
theorem dX2_withRecording_18 : decode cX2_withRecording 18 = .ok (.getfield 10, 3) := by decide +kernel
theorem dX2_withRecording_21 : decode cX2_withRecording 21 = .ok (.iload_n 3, 1) := by decide +kernel
theorem dX2_withRecording_22 : decode cX2_withRecording 22 = .ok (.invokevirtual 78, 3) := by decide +kernel
theorem dX2_withRecording_25 : decode cX2_withRecording 25 = .ok (.ifCond .eq 7, 3) := by decide +kernel
theorem dX2_withRecording_28 : decode cX2_withRecording 28 = .ok (.lconst 1, 1) := by decide +kernel
theorem dX2_withRecording_29 : decode cX2_withRecording 29 = .ok (.goto 4, 3) := by decide +kernel
theorem dX2_withRecording_32 : decode cX2_withRecording 32 = .ok (.lconst 0, 1) := by decide +kernel
theorem dX2_withRecording_33 : decode cX2_withRecording 33 = .ok (.invokestatic 221, 3) := by decide +kernel
theorem dX2_withRecording_36 : decode cX2_withRecording 36 = .ok (.lstore 4, 2) := by decide +kernel
theorem dX2_withRecording_38 : decode cX2_withRecording 38 = .ok (.lload 4, 2) := by decide +kernel
theorem dX2_withRecording_40 : decode cX2_withRecording 40 = .ok (.aload_n 0, 1) := by decide +kernel
theorem dX2_withRecording_41 : decode cX2_withRecording 41 = .ok (.getfield 10, 3) := by decide +kernel
theorem dX2_withRecording_44 : decode cX2_withRecording 44 = .ok (.getfield 123, 3) := by decide +kernel
theorem dX2_withRecording_47 : decode cX2_withRecording 47 = .ok (.iload_n 3, 1) := by decide +kernel
theorem dX2_withRecording_48 : decode cX2_withRecording 48 = .ok (.invokestatic 119, 3) := by decide +kernel
theorem dX2_withRecording_51 : decode cX2_withRecording 51 = .ok (.i2l, 1) := by decide +kernel
theorem dX2_withRecording_52 : decode cX2_withRecording 52 = .ok (.invokestatic 221, 3) := by decide +kernel
theorem dX2_withRecording_55 : decode cX2_withRecording 55 = .ok (.lstore 4, 2) := by decide +kernel
theorem dX2_withRecording_57 : decode cX2_withRecording 57 = .ok (.iconst 0, 1) := by decide +kernel
theorem dX2_withRecording_58 : decode cX2_withRecording 58 = .ok (.istore 6, 2) := by decide +kernel
theorem dX2_withRecording_60 : decode cX2_withRecording 60 = .ok (.iload 6, 2) := by decide +kernel
theorem dX2_withRecording_62 : decode cX2_withRecording 62 = .ok (.aload_n 0, 1) := by decide +kernel
theorem dX2_withRecording_63 : decode cX2_withRecording 63 = .ok (.getfield 10, 3) := by decide +kernel
theorem dX2_withRecording_66 : decode cX2_withRecording 66 = .ok (.getfield 129, 3) := by decide +kernel
theorem dX2_withRecording_69 : decode cX2_withRecording 69 = .ok (.if_icmp .ge 89, 3) := by decide +kernel
theorem dX2_withRecording_72 : decode cX2_withRecording 72 = .ok (.aload_n 0, 1) := by decide +kernel
theorem dX2_withRecording_73 : decode cX2_withRecording 73 = .ok (.getfield 10, 3) := by decide +kernel
theorem dX2_withRecording_76 : decode cX2_withRecording 76 = .ok (.getfield 255, 3) := by decide +kernel
theorem dX2_withRecording_79 : decode cX2_withRecording 79 = .ok (.iload 6, 2) := by decide +kernel
theorem dX2_withRecording_81 : decode cX2_withRecording 81 = .ok (.invokestatic 119, 3) := by decide +kernel
theorem dX2_withRecording_84 : decode cX2_withRecording 84 = .ok (.istore 7, 2) := by decide +kernel
theorem dX2_withRecording_86 : decode cX2_withRecording 86 = .ok (.aload_n 0, 1) := by decide +kernel
theorem dX2_withRecording_87 : decode cX2_withRecording 87 = .ok (.getfield 10, 3) := by decide +kernel
theorem dX2_withRecording_90 : decode cX2_withRecording 90 = .ok (.getfield 126, 3) := by decide +kernel
theorem dX2_withRecording_93 : decode cX2_withRecording 93 = .ok (.iload 7, 2) := by decide +kernel
theorem dX2_withRecording_95 : decode cX2_withRecording 95 = .ok (.invokestatic 119, 3) := by decide +kernel
theorem dX2_withRecording_98 : decode cX2_withRecording 98 = .ok (.iload_n 3, 1) := by decide +kernel
theorem dX2_withRecording_99 : decode cX2_withRecording 99 = .ok (.if_icmp .ne 53, 3) := by decide +kernel
theorem dX2_withRecording_102 : decode cX2_withRecording 102 = .ok (.lload 4, 2) := by decide +kernel
theorem dX2_withRecording_104 : decode cX2_withRecording 104 = .ok (.iload 7, 2) := by decide +kernel
theorem dX2_withRecording_106 : decode cX2_withRecording 106 = .ok (.i2l, 1) := by decide +kernel
theorem dX2_withRecording_107 : decode cX2_withRecording 107 = .ok (.invokestatic 221, 3) := by decide +kernel
theorem dX2_withRecording_110 : decode cX2_withRecording 110 = .ok (.lstore 4, 2) := by decide +kernel
theorem dX2_withRecording_112 : decode cX2_withRecording 112 = .ok (.lload 4, 2) := by decide +kernel
theorem dX2_withRecording_114 : decode cX2_withRecording 114 = .ok (.aload_n 0, 1) := by decide +kernel
theorem dX2_withRecording_115 : decode cX2_withRecording 115 = .ok (.getfield 10, 3) := by decide +kernel
theorem dX2_withRecording_118 : decode cX2_withRecording 118 = .ok (.getfield 112, 3) := by decide +kernel
theorem dX2_withRecording_121 : decode cX2_withRecording 121 = .ok (.iload 7, 2) := by decide +kernel
theorem dX2_withRecording_123 : decode cX2_withRecording 123 = .ok (.invokestatic 119, 3) := by decide +kernel
theorem dX2_withRecording_126 : decode cX2_withRecording 126 = .ok (.i2l, 1) := by decide +kernel
theorem dX2_withRecording_127 : decode cX2_withRecording 127 = .ok (.invokestatic 221, 3) := by decide +kernel
theorem dX2_withRecording_130 : decode cX2_withRecording 130 = .ok (.lstore 4, 2) := by decide +kernel
theorem dX2_withRecording_132 : decode cX2_withRecording 132 = .ok (.lload 4, 2) := by decide +kernel
theorem dX2_withRecording_134 : decode cX2_withRecording 134 = .ok (.aload_n 0, 1) := by decide +kernel
theorem dX2_withRecording_135 : decode cX2_withRecording 135 = .ok (.getfield 10, 3) := by decide +kernel
theorem dX2_withRecording_138 : decode cX2_withRecording 138 = .ok (.getfield 167, 3) := by decide +kernel
theorem dX2_withRecording_141 : decode cX2_withRecording 141 = .ok (.iload 7, 2) := by decide +kernel
theorem dX2_withRecording_143 : decode cX2_withRecording 143 = .ok (.invokestatic 119, 3) := by decide +kernel
theorem dX2_withRecording_146 : decode cX2_withRecording 146 = .ok (.i2l, 1) := by decide +kernel
theorem dX2_withRecording_147 : decode cX2_withRecording 147 = .ok (.invokestatic 221, 3) := by decide +kernel
theorem dX2_withRecording_150 : decode cX2_withRecording 150 = .ok (.lstore 4, 2) := by decide +kernel
theorem dX2_withRecording_152 : decode cX2_withRecording 152 = .ok (.iinc 6 1, 3) := by decide +kernel
theorem dX2_withRecording_155 : decode cX2_withRecording 155 = .ok (.goto (-95), 3) := by decide +kernel
theorem dX2_withRecording_158 : decode cX2_withRecording 158 = .ok (.lload 4, 2) := by decide +kernel
theorem dX2_withRecording_160 : decode cX2_withRecording 160 = .ok (.lreturn, 1) := by decide +kernel
theorem dX2_mixed_0 : decode cX2_mixed 0 = .ok (.ldc2_w 258, 3) := by decide +kernel
theorem dX2_mixed_3 : decode cX2_mixed 3 = .ok (.lload_n 0, 1) := by decide +kernel
theorem dX2_mixed_4 : decode cX2_mixed 4 = .ok (.lmul, 1) := by decide +kernel
theorem dX2_mixed_5 : decode cX2_mixed 5 = .ok (.lload_n 2, 1) := by decide +kernel
theorem dX2_mixed_6 : decode cX2_mixed 6 = .ok (.ladd, 1) := by decide +kernel
theorem dX2_mixed_7 : decode cX2_mixed 7 = .ok (.lreturn, 1) := by decide +kernel
theorem dX2_save_0 : decode cX2_save 0 = .ok (.aload_n 0, 1) := by decide +kernel
theorem dX2_save_1 : decode cX2_save 1 = .ok (.aload_n 0, 1) := by decide +kernel
theorem dX2_save_2 : decode cX2_save 2 = .ok (.getfield 20, 3) := by decide +kernel
theorem dX2_save_5 : decode cX2_save 5 = .ok (.invokevirtual 208, 3) := by decide +kernel
theorem dX2_save_8 : decode cX2_save 8 = .ok (.astore_n 1, 1) := by decide +kernel
theorem dX2_save_9 : decode cX2_save 9 = .ok (.aload_n 1, 1) := by decide +kernel
theorem dX2_save_10 : decode cX2_save 10 = .ok (.ifnull 11, 3) := by decide +kernel
theorem dX2_save_13 : decode cX2_save 13 = .ok (.aload_n 1, 1) := by decide +kernel
theorem dX2_save_14 : decode cX2_save 14 = .ok (.aload_n 0, 1) := by decide +kernel
theorem dX2_save_15 : decode cX2_save 15 = .ok (.getfield 10, 3) := by decide +kernel
theorem dX2_save_18 : decode cX2_save 18 = .ok (.invokevirtual 212, 3) := by decide +kernel
theorem dX2_save_21 : decode cX2_save 21 = .ok (.aload_n 0, 1) := by decide +kernel
theorem dX2_save_22 : decode cX2_save 22 = .ok (.aload_n 0, 1) := by decide +kernel
theorem dX2_save_23 : decode cX2_save 23 = .ok (.getfield 20, 3) := by decide +kernel
theorem dX2_save_26 : decode cX2_save 26 = .ok (.iconst 1, 1) := by decide +kernel
theorem dX2_save_27 : decode cX2_save 27 = .ok (.iadd, 1) := by decide +kernel
theorem dX2_save_28 : decode cX2_save 28 = .ok (.bipush 6, 2) := by decide +kernel
theorem dX2_save_30 : decode cX2_save 30 = .ok (.if_icmp .ge 12, 3) := by decide +kernel
theorem dX2_save_33 : decode cX2_save 33 = .ok (.aload_n 0, 1) := by decide +kernel
theorem dX2_save_34 : decode cX2_save 34 = .ok (.getfield 20, 3) := by decide +kernel
theorem dX2_save_37 : decode cX2_save 37 = .ok (.iconst 1, 1) := by decide +kernel
theorem dX2_save_38 : decode cX2_save 38 = .ok (.iadd, 1) := by decide +kernel
theorem dX2_save_39 : decode cX2_save 39 = .ok (.goto 4, 3) := by decide +kernel
theorem dX2_save_42 : decode cX2_save 42 = .ok (.iconst 0, 1) := by decide +kernel
theorem dX2_save_43 : decode cX2_save 43 = .ok (.putfield 20, 3) := by decide +kernel
theorem dX2_save_46 : decode cX2_save 46 = .ok (.aload_n 0, 1) := by decide +kernel
theorem dX2_save_47 : decode cX2_save 47 = .ok (.getfield 24, 3) := by decide +kernel
theorem dX2_save_50 : decode cX2_save 50 = .ok (.bipush 6, 2) := by decide +kernel
theorem dX2_save_52 : decode cX2_save 52 = .ok (.if_icmp .ge 13, 3) := by decide +kernel
theorem dX2_save_55 : decode cX2_save 55 = .ok (.aload_n 0, 1) := by decide +kernel
theorem dX2_save_56 : decode cX2_save 56 = .ok (.dup, 1) := by decide +kernel
theorem dX2_save_57 : decode cX2_save 57 = .ok (.getfield 24, 3) := by decide +kernel
theorem dX2_save_60 : decode cX2_save 60 = .ok (.iconst 1, 1) := by decide +kernel
theorem dX2_save_61 : decode cX2_save 61 = .ok (.iadd, 1) := by decide +kernel
theorem dX2_save_62 : decode cX2_save 62 = .ok (.putfield 24, 3) := by decide +kernel
theorem dX2_save_65 : decode cX2_save 65 = .ok (.return_, 1) := by decide +kernel
theorem dX2_slotAt_0 : decode cX2_slotAt 0 = .ok (.iload_n 1, 1) := by decide +kernel
theorem dX2_slotAt_1 : decode cX2_slotAt 1 = .ok (.ifCond .lt 21, 3) := by decide +kernel
theorem dX2_slotAt_4 : decode cX2_slotAt 4 = .ok (.iload_n 1, 1) := by decide +kernel
theorem dX2_slotAt_5 : decode cX2_slotAt 5 = .ok (.aload_n 0, 1) := by decide +kernel
theorem dX2_slotAt_6 : decode cX2_slotAt 6 = .ok (.getfield 16, 3) := by decide +kernel
theorem dX2_slotAt_9 : decode cX2_slotAt 9 = .ok (.arraylength, 1) := by decide +kernel
theorem dX2_slotAt_10 : decode cX2_slotAt 10 = .ok (.if_icmp .ge 12, 3) := by decide +kernel
theorem dX2_slotAt_13 : decode cX2_slotAt 13 = .ok (.aload_n 0, 1) := by decide +kernel
theorem dX2_slotAt_14 : decode cX2_slotAt 14 = .ok (.getfield 16, 3) := by decide +kernel
theorem dX2_slotAt_17 : decode cX2_slotAt 17 = .ok (.iload_n 1, 1) := by decide +kernel
theorem dX2_slotAt_18 : decode cX2_slotAt 18 = .ok (.aaload, 1) := by decide +kernel
theorem dX2_slotAt_19 : decode cX2_slotAt 19 = .ok (.goto 4, 3) := by decide +kernel
theorem dX2_slotAt_22 : decode cX2_slotAt 22 = .ok (.aconst_null, 1) := by decide +kernel
theorem dX2_slotAt_23 : decode cX2_slotAt 23 = .ok (.areturn, 1) := by decide +kernel
theorem dX2_obeyOrders_0 : decode cX2_obeyOrders 0 = .ok (.iconst 0, 1) := by decide +kernel
theorem dX2_obeyOrders_1 : decode cX2_obeyOrders 1 = .ok (.istore_n 1, 1) := by decide +kernel
theorem dX2_obeyOrders_2 : decode cX2_obeyOrders 2 = .ok (.iconst (-1), 1) := by decide +kernel
theorem dX2_obeyOrders_3 : decode cX2_obeyOrders 3 = .ok (.istore_n 2, 1) := by decide +kernel
theorem dX2_obeyOrders_4 : decode cX2_obeyOrders 4 = .ok (.iconst 0, 1) := by decide +kernel
theorem dX2_obeyOrders_5 : decode cX2_obeyOrders 5 = .ok (.istore_n 3, 1) := by decide +kernel
theorem dX2_obeyOrders_6 : decode cX2_obeyOrders 6 = .ok (.iconst 0, 1) := by decide +kernel
theorem dX2_obeyOrders_7 : decode cX2_obeyOrders 7 = .ok (.istore 4, 2) := by decide +kernel
theorem dX2_obeyOrders_9 : decode cX2_obeyOrders 9 = .ok (.aload_n 0, 1) := by decide +kernel
theorem dX2_obeyOrders_10 : decode cX2_obeyOrders 10 = .ok (.getfield 30, 3) := by decide +kernel
theorem dX2_obeyOrders_13 : decode cX2_obeyOrders 13 = .ok (.getfield 187, 3) := by decide +kernel
theorem dX2_obeyOrders_16 : decode cX2_obeyOrders 16 = .ok (.bipush 60, 2) := by decide +kernel
theorem dX2_obeyOrders_18 : decode cX2_obeyOrders 18 = .ok (.invokestatic 260, 3) := by decide +kernel
theorem dX2_obeyOrders_21 : decode cX2_obeyOrders 21 = .ok (.istore 5, 2) := by decide +kernel
theorem dX2_obeyOrders_23 : decode cX2_obeyOrders 23 = .ok (.iconst 0, 1) := by decide +kernel
theorem dX2_obeyOrders_24 : decode cX2_obeyOrders 24 = .ok (.istore 6, 2) := by decide +kernel
theorem dX2_obeyOrders_26 : decode cX2_obeyOrders 26 = .ok (.iload 6, 2) := by decide +kernel
theorem dX2_obeyOrders_28 : decode cX2_obeyOrders 28 = .ok (.iload 5, 2) := by decide +kernel
theorem dX2_obeyOrders_30 : decode cX2_obeyOrders 30 = .ok (.if_icmp .gt 116, 3) := by decide +kernel
theorem dX2_obeyOrders_33 : decode cX2_obeyOrders 33 = .ok (.iload 6, 2) := by decide +kernel
theorem dX2_obeyOrders_35 : decode cX2_obeyOrders 35 = .ok (.iload 5, 2) := by decide +kernel
theorem dX2_obeyOrders_37 : decode cX2_obeyOrders 37 = .ok (.if_icmp .ge 18, 3) := by decide +kernel
theorem dX2_obeyOrders_40 : decode cX2_obeyOrders 40 = .ok (.aload_n 0, 1) := by decide +kernel
theorem dX2_obeyOrders_41 : decode cX2_obeyOrders 41 = .ok (.getfield 30, 3) := by decide +kernel
theorem dX2_obeyOrders_44 : decode cX2_obeyOrders 44 = .ok (.getfield 265, 3) := by decide +kernel
theorem dX2_obeyOrders_47 : decode cX2_obeyOrders 47 = .ok (.iload 6, 2) := by decide +kernel
theorem dX2_obeyOrders_49 : decode cX2_obeyOrders 49 = .ok (.invokestatic 119, 3) := by decide +kernel
theorem dX2_obeyOrders_52 : decode cX2_obeyOrders 52 = .ok (.goto 5, 3) := by decide +kernel
theorem dX2_obeyOrders_55 : decode cX2_obeyOrders 55 = .ok (.bipush 59, 2) := by decide +kernel
theorem dX2_obeyOrders_57 : decode cX2_obeyOrders 57 = .ok (.istore 7, 2) := by decide +kernel
theorem dX2_obeyOrders_59 : decode cX2_obeyOrders 59 = .ok (.iload 7, 2) := by decide +kernel
theorem dX2_obeyOrders_61 : decode cX2_obeyOrders 61 = .ok (.bipush 59, 2) := by decide +kernel
theorem dX2_obeyOrders_63 : decode cX2_obeyOrders 63 = .ok (.if_icmp .ne 37, 3) := by decide +kernel
theorem dX2_obeyOrders_66 : decode cX2_obeyOrders 66 = .ok (.aload_n 0, 1) := by decide +kernel
theorem dX2_obeyOrders_67 : decode cX2_obeyOrders 67 = .ok (.iload_n 2, 1) := by decide +kernel
theorem dX2_obeyOrders_68 : decode cX2_obeyOrders 68 = .ok (.iload_n 3, 1) := by decide +kernel
theorem dX2_obeyOrders_69 : decode cX2_obeyOrders 69 = .ok (.iload 4, 2) := by decide +kernel
theorem dX2_obeyOrders_71 : decode cX2_obeyOrders 71 = .ok (.invokevirtual 268, 3) := by decide +kernel
theorem dX2_obeyOrders_74 : decode cX2_obeyOrders 74 = .ok (.ifCond .ne 5, 3) := by decide +kernel
theorem dX2_obeyOrders_77 : decode cX2_obeyOrders 77 = .ok (.iload_n 1, 1) := by decide +kernel
theorem dX2_obeyOrders_78 : decode cX2_obeyOrders 78 = .ok (.ireturn, 1) := by decide +kernel
theorem dX2_obeyOrders_79 : decode cX2_obeyOrders 79 = .ok (.aload_n 0, 1) := by decide +kernel
theorem dX2_obeyOrders_80 : decode cX2_obeyOrders 80 = .ok (.iload_n 2, 1) := by decide +kernel
theorem dX2_obeyOrders_81 : decode cX2_obeyOrders 81 = .ok (.iload_n 3, 1) := by decide +kernel
theorem dX2_obeyOrders_82 : decode cX2_obeyOrders 82 = .ok (.iload 4, 2) := by decide +kernel
theorem dX2_obeyOrders_84 : decode cX2_obeyOrders 84 = .ok (.invokevirtual 272, 3) := by decide +kernel
theorem dX2_obeyOrders_87 : decode cX2_obeyOrders 87 = .ok (.iinc 1 1, 3) := by decide +kernel
theorem dX2_obeyOrders_90 : decode cX2_obeyOrders 90 = .ok (.iconst (-1), 1) := by decide +kernel
theorem dX2_obeyOrders_91 : decode cX2_obeyOrders 91 = .ok (.istore_n 2, 1) := by decide +kernel
theorem dX2_obeyOrders_92 : decode cX2_obeyOrders 92 = .ok (.iconst 0, 1) := by decide +kernel
theorem dX2_obeyOrders_93 : decode cX2_obeyOrders 93 = .ok (.istore_n 3, 1) := by decide +kernel
theorem dX2_obeyOrders_94 : decode cX2_obeyOrders 94 = .ok (.iconst 0, 1) := by decide +kernel
theorem dX2_obeyOrders_95 : decode cX2_obeyOrders 95 = .ok (.istore 4, 2) := by decide +kernel
theorem dX2_obeyOrders_97 : decode cX2_obeyOrders 97 = .ok (.goto 43, 3) := by decide +kernel
theorem dX2_obeyOrders_100 : decode cX2_obeyOrders 100 = .ok (.iload 7, 2) := by decide +kernel
theorem dX2_obeyOrders_102 : decode cX2_obeyOrders 102 = .ok (.bipush 61, 2) := by decide +kernel
theorem dX2_obeyOrders_104 : decode cX2_obeyOrders 104 = .ok (.if_icmp .ne 12, 3) := by decide +kernel
theorem dX2_obeyOrders_107 : decode cX2_obeyOrders 107 = .ok (.iload 4, 2) := by decide +kernel
theorem dX2_obeyOrders_109 : decode cX2_obeyOrders 109 = .ok (.istore_n 3, 1) := by decide +kernel
theorem dX2_obeyOrders_110 : decode cX2_obeyOrders 110 = .ok (.iconst 0, 1) := by decide +kernel
theorem dX2_obeyOrders_111 : decode cX2_obeyOrders 111 = .ok (.istore 4, 2) := by decide +kernel
theorem dX2_obeyOrders_113 : decode cX2_obeyOrders 113 = .ok (.goto 27, 3) := by decide +kernel
theorem dX2_obeyOrders_116 : decode cX2_obeyOrders 116 = .ok (.iload_n 2, 1) := by decide +kernel
theorem dX2_obeyOrders_117 : decode cX2_obeyOrders 117 = .ok (.iconst (-1), 1) := by decide +kernel
theorem dX2_obeyOrders_118 : decode cX2_obeyOrders 118 = .ok (.if_icmp .ne 9, 3) := by decide +kernel
theorem dX2_obeyOrders_121 : decode cX2_obeyOrders 121 = .ok (.iload 7, 2) := by decide +kernel
theorem dX2_obeyOrders_123 : decode cX2_obeyOrders 123 = .ok (.istore_n 2, 1) := by decide +kernel
theorem dX2_obeyOrders_124 : decode cX2_obeyOrders 124 = .ok (.goto 16, 3) := by decide +kernel
theorem dX2_obeyOrders_127 : decode cX2_obeyOrders 127 = .ok (.bipush 10, 2) := by decide +kernel
theorem dX2_obeyOrders_129 : decode cX2_obeyOrders 129 = .ok (.iload 4, 2) := by decide +kernel
theorem dX2_obeyOrders_131 : decode cX2_obeyOrders 131 = .ok (.imul, 1) := by decide +kernel
theorem dX2_obeyOrders_132 : decode cX2_obeyOrders 132 = .ok (.iload 7, 2) := by decide +kernel
theorem dX2_obeyOrders_134 : decode cX2_obeyOrders 134 = .ok (.bipush 48, 2) := by decide +kernel
theorem dX2_obeyOrders_136 : decode cX2_obeyOrders 136 = .ok (.isub, 1) := by decide +kernel
theorem dX2_obeyOrders_137 : decode cX2_obeyOrders 137 = .ok (.iadd, 1) := by decide +kernel
theorem dX2_obeyOrders_138 : decode cX2_obeyOrders 138 = .ok (.istore 4, 2) := by decide +kernel
theorem dX2_obeyOrders_140 : decode cX2_obeyOrders 140 = .ok (.iinc 6 1, 3) := by decide +kernel
theorem dX2_obeyOrders_143 : decode cX2_obeyOrders 143 = .ok (.goto (-117), 3) := by decide +kernel
theorem dX2_obeyOrders_146 : decode cX2_obeyOrders 146 = .ok (.iload_n 1, 1) := by decide +kernel
theorem dX2_obeyOrders_147 : decode cX2_obeyOrders 147 = .ok (.ireturn, 1) := by decide +kernel
theorem dX2_mayObey_0 : decode cX2_mayObey 0 = .ok (.iload_n 1, 1) := by decide +kernel
theorem dX2_mayObey_1 : decode cX2_mayObey 1 = .ok (.tableswitch 183 98 117 #[95, 183, 183, 138, 129, 129, 103, 183, 183, 166, 183, 183, 183, 183, 166, 183, 120, 111, 183, 129], 95) := by decide +kernel
theorem dX2_mayObey_96 : decode cX2_mayObey 96 = .ok (.aload_n 0, 1) := by decide +kernel
theorem dX2_mayObey_97 : decode cX2_mayObey 97 = .ok (.getfield 10, 3) := by decide +kernel
theorem dX2_mayObey_100 : decode cX2_mayObey 100 = .ok (.invokevirtual 34, 3) := by decide +kernel
theorem dX2_mayObey_103 : decode cX2_mayObey 103 = .ok (.ireturn, 1) := by decide +kernel
theorem dX2_mayObey_104 : decode cX2_mayObey 104 = .ok (.aload_n 0, 1) := by decide +kernel
theorem dX2_mayObey_105 : decode cX2_mayObey 105 = .ok (.getfield 10, 3) := by decide +kernel
theorem dX2_mayObey_108 : decode cX2_mayObey 108 = .ok (.getfield 52, 3) := by decide +kernel
theorem dX2_mayObey_111 : decode cX2_mayObey 111 = .ok (.ireturn, 1) := by decide +kernel
theorem dX2_mayObey_112 : decode cX2_mayObey 112 = .ok (.aload_n 0, 1) := by decide +kernel
theorem dX2_mayObey_113 : decode cX2_mayObey 113 = .ok (.getfield 10, 3) := by decide +kernel
theorem dX2_mayObey_116 : decode cX2_mayObey 116 = .ok (.iconst 1, 1) := by decide +kernel
theorem dX2_mayObey_117 : decode cX2_mayObey 117 = .ok (.invokevirtual 65, 3) := by decide +kernel
theorem dX2_mayObey_120 : decode cX2_mayObey 120 = .ok (.ireturn, 1) := by decide +kernel
theorem dX2_mayObey_121 : decode cX2_mayObey 121 = .ok (.aload_n 0, 1) := by decide +kernel
theorem dX2_mayObey_122 : decode cX2_mayObey 122 = .ok (.getfield 10, 3) := by decide +kernel
theorem dX2_mayObey_125 : decode cX2_mayObey 125 = .ok (.iload_n 2, 1) := by decide +kernel
theorem dX2_mayObey_126 : decode cX2_mayObey 126 = .ok (.invokevirtual 65, 3) := by decide +kernel
theorem dX2_mayObey_129 : decode cX2_mayObey 129 = .ok (.ireturn, 1) := by decide +kernel
theorem dX2_mayObey_130 : decode cX2_mayObey 130 = .ok (.aload_n 0, 1) := by decide +kernel
theorem dX2_mayObey_131 : decode cX2_mayObey 131 = .ok (.getfield 10, 3) := by decide +kernel
theorem dX2_mayObey_134 : decode cX2_mayObey 134 = .ok (.iload_n 3, 1) := by decide +kernel
theorem dX2_mayObey_135 : decode cX2_mayObey 135 = .ok (.invokevirtual 276, 3) := by decide +kernel
theorem dX2_mayObey_138 : decode cX2_mayObey 138 = .ok (.ireturn, 1) := by decide +kernel
theorem dX2_mayObey_139 : decode cX2_mayObey 139 = .ok (.aload_n 0, 1) := by decide +kernel
theorem dX2_mayObey_140 : decode cX2_mayObey 140 = .ok (.getfield 10, 3) := by decide +kernel
theorem dX2_mayObey_143 : decode cX2_mayObey 143 = .ok (.iload_n 3, 1) := by decide +kernel
theorem dX2_mayObey_144 : decode cX2_mayObey 144 = .ok (.invokevirtual 276, 3) := by decide +kernel
theorem dX2_mayObey_147 : decode cX2_mayObey 147 = .ok (.ifCond .eq 18, 3) := by decide +kernel
theorem dX2_mayObey_150 : decode cX2_mayObey 150 = .ok (.aload_n 0, 1) := by decide +kernel
theorem dX2_mayObey_151 : decode cX2_mayObey 151 = .ok (.getfield 10, 3) := by decide +kernel
theorem dX2_mayObey_154 : decode cX2_mayObey 154 = .ok (.iload_n 3, 1) := by decide +kernel
theorem dX2_mayObey_155 : decode cX2_mayObey 155 = .ok (.invokevirtual 78, 3) := by decide +kernel
theorem dX2_mayObey_158 : decode cX2_mayObey 158 = .ok (.ifCond .ne 7, 3) := by decide +kernel
theorem dX2_mayObey_161 : decode cX2_mayObey 161 = .ok (.iconst 1, 1) := by decide +kernel
theorem dX2_mayObey_162 : decode cX2_mayObey 162 = .ok (.goto 4, 3) := by decide +kernel
theorem dX2_mayObey_165 : decode cX2_mayObey 165 = .ok (.iconst 0, 1) := by decide +kernel
theorem dX2_mayObey_166 : decode cX2_mayObey 166 = .ok (.ireturn, 1) := by decide +kernel
theorem dX2_mayObey_167 : decode cX2_mayObey 167 = .ok (.aload_n 0, 1) := by decide +kernel
theorem dX2_mayObey_168 : decode cX2_mayObey 168 = .ok (.getfield 10, 3) := by decide +kernel
theorem dX2_mayObey_171 : decode cX2_mayObey 171 = .ok (.getfield 157, 3) := by decide +kernel
theorem dX2_mayObey_174 : decode cX2_mayObey 174 = .ok (.iconst (-1), 1) := by decide +kernel
theorem dX2_mayObey_175 : decode cX2_mayObey 175 = .ok (.if_icmp .eq 7, 3) := by decide +kernel
theorem dX2_mayObey_178 : decode cX2_mayObey 178 = .ok (.iconst 1, 1) := by decide +kernel
theorem dX2_mayObey_179 : decode cX2_mayObey 179 = .ok (.goto 4, 3) := by decide +kernel
theorem dX2_mayObey_182 : decode cX2_mayObey 182 = .ok (.iconst 0, 1) := by decide +kernel
theorem dX2_mayObey_183 : decode cX2_mayObey 183 = .ok (.ireturn, 1) := by decide +kernel
theorem dX2_mayObey_184 : decode cX2_mayObey 184 = .ok (.iconst 0, 1) := by decide +kernel
theorem dX2_mayObey_185 : decode cX2_mayObey 185 = .ok (.ireturn, 1) := by decide +kernel
theorem dX2_obey_0 : decode cX2_obey 0 = .ok (.iload_n 1, 1) := by decide +kernel
theorem dX2_obey_1 : decode cX2_obey 1 = .ok (.tableswitch 213 98 117 #[95, 213, 213, 167, 143, 179, 106, 213, 213, 201, 213, 213, 213, 213, 190, 213, 130, 117, 213, 155], 95) := by decide +kernel
theorem dX2_obey_96 : decode cX2_obey 96 = .ok (.aload_n 0, 1) := by decide +kernel
theorem dX2_obey_97 : decode cX2_obey 97 = .ok (.getfield 10, 3) := by decide +kernel
theorem dX2_obey_100 : decode cX2_obey 100 = .ok (.invokevirtual 48, 3) := by decide +kernel
theorem dX2_obey_103 : decode cX2_obey 103 = .ok (.pop, 1) := by decide +kernel
theorem dX2_obey_104 : decode cX2_obey 104 = .ok (.goto 110, 3) := by decide +kernel
theorem dX2_obey_107 : decode cX2_obey 107 = .ok (.aload_n 0, 1) := by decide +kernel
theorem dX2_obey_108 : decode cX2_obey 108 = .ok (.getfield 10, 3) := by decide +kernel
theorem dX2_obey_111 : decode cX2_obey 111 = .ok (.invokevirtual 58, 3) := by decide +kernel
theorem dX2_obey_114 : decode cX2_obey 114 = .ok (.pop, 1) := by decide +kernel
theorem dX2_obey_115 : decode cX2_obey 115 = .ok (.goto 99, 3) := by decide +kernel
theorem dX2_obey_118 : decode cX2_obey 118 = .ok (.aload_n 0, 1) := by decide +kernel
theorem dX2_obey_119 : decode cX2_obey 119 = .ok (.getfield 10, 3) := by decide +kernel
theorem dX2_obey_122 : decode cX2_obey 122 = .ok (.iconst 1, 1) := by decide +kernel
theorem dX2_obey_123 : decode cX2_obey 123 = .ok (.iload_n 3, 1) := by decide +kernel
theorem dX2_obey_124 : decode cX2_obey 124 = .ok (.invokevirtual 71, 3) := by decide +kernel
theorem dX2_obey_127 : decode cX2_obey 127 = .ok (.pop, 1) := by decide +kernel
theorem dX2_obey_128 : decode cX2_obey 128 = .ok (.goto 86, 3) := by decide +kernel
theorem dX2_obey_131 : decode cX2_obey 131 = .ok (.aload_n 0, 1) := by decide +kernel
theorem dX2_obey_132 : decode cX2_obey 132 = .ok (.getfield 10, 3) := by decide +kernel
theorem dX2_obey_135 : decode cX2_obey 135 = .ok (.iload_n 2, 1) := by decide +kernel
theorem dX2_obey_136 : decode cX2_obey 136 = .ok (.iload_n 3, 1) := by decide +kernel
theorem dX2_obey_137 : decode cX2_obey 137 = .ok (.invokevirtual 71, 3) := by decide +kernel
theorem dX2_obey_140 : decode cX2_obey 140 = .ok (.pop, 1) := by decide +kernel
theorem dX2_obey_141 : decode cX2_obey 141 = .ok (.goto 73, 3) := by decide +kernel
theorem dX2_obey_144 : decode cX2_obey 144 = .ok (.aload_n 0, 1) := by decide +kernel
theorem dX2_obey_145 : decode cX2_obey 145 = .ok (.getfield 10, 3) := by decide +kernel
theorem dX2_obey_148 : decode cX2_obey 148 = .ok (.iload_n 3, 1) := by decide +kernel
theorem dX2_obey_149 : decode cX2_obey 149 = .ok (.iconst 1, 1) := by decide +kernel
theorem dX2_obey_150 : decode cX2_obey 150 = .ok (.invokevirtual 81, 3) := by decide +kernel
theorem dX2_obey_153 : decode cX2_obey 153 = .ok (.goto 61, 3) := by decide +kernel
theorem dX2_obey_156 : decode cX2_obey 156 = .ok (.aload_n 0, 1) := by decide +kernel
theorem dX2_obey_157 : decode cX2_obey 157 = .ok (.getfield 10, 3) := by decide +kernel
theorem dX2_obey_160 : decode cX2_obey 160 = .ok (.iload_n 3, 1) := by decide +kernel
theorem dX2_obey_161 : decode cX2_obey 161 = .ok (.iconst 0, 1) := by decide +kernel
theorem dX2_obey_162 : decode cX2_obey 162 = .ok (.invokevirtual 81, 3) := by decide +kernel
theorem dX2_obey_165 : decode cX2_obey 165 = .ok (.goto 49, 3) := by decide +kernel
theorem dX2_obey_168 : decode cX2_obey 168 = .ok (.aload_n 0, 1) := by decide +kernel
theorem dX2_obey_169 : decode cX2_obey 169 = .ok (.getfield 10, 3) := by decide +kernel
theorem dX2_obey_172 : decode cX2_obey 172 = .ok (.iload_n 3, 1) := by decide +kernel
theorem dX2_obey_173 : decode cX2_obey 173 = .ok (.invokevirtual 87, 3) := by decide +kernel
theorem dX2_obey_176 : decode cX2_obey 176 = .ok (.pop, 1) := by decide +kernel
theorem dX2_obey_177 : decode cX2_obey 177 = .ok (.goto 37, 3) := by decide +kernel
theorem dX2_obey_180 : decode cX2_obey 180 = .ok (.aload_n 0, 1) := by decide +kernel
theorem dX2_obey_181 : decode cX2_obey 181 = .ok (.getfield 10, 3) := by decide +kernel
theorem dX2_obey_184 : decode cX2_obey 184 = .ok (.iload_n 3, 1) := by decide +kernel
theorem dX2_obey_185 : decode cX2_obey 185 = .ok (.invokevirtual 140, 3) := by decide +kernel
theorem dX2_obey_188 : decode cX2_obey 188 = .ok (.goto 26, 3) := by decide +kernel
theorem dX2_obey_191 : decode cX2_obey 191 = .ok (.aload_n 0, 1) := by decide +kernel
theorem dX2_obey_192 : decode cX2_obey 192 = .ok (.getfield 10, 3) := by decide +kernel
theorem dX2_obey_195 : decode cX2_obey 195 = .ok (.invokevirtual 146, 3) := by decide +kernel
theorem dX2_obey_198 : decode cX2_obey 198 = .ok (.pop, 1) := by decide +kernel
theorem dX2_obey_199 : decode cX2_obey 199 = .ok (.goto 15, 3) := by decide +kernel
theorem dX2_obey_202 : decode cX2_obey 202 = .ok (.aload_n 0, 1) := by decide +kernel
theorem dX2_obey_203 : decode cX2_obey 203 = .ok (.getfield 10, 3) := by decide +kernel
theorem dX2_obey_206 : decode cX2_obey 206 = .ok (.iload_n 3, 1) := by decide +kernel
theorem dX2_obey_207 : decode cX2_obey 207 = .ok (.invokevirtual 154, 3) := by decide +kernel
theorem dX2_obey_210 : decode cX2_obey 210 = .ok (.pop, 1) := by decide +kernel
theorem dX2_obey_211 : decode cX2_obey 211 = .ok (.goto 3, 3) := by decide +kernel
theorem dX2_obey_214 : decode cX2_obey 214 = .ok (.return_, 1) := by decide +kernel
theorem dX2_requireRecording_0 : decode cX2_requireRecording 0 = .ok (.aload_n 0, 1) := by decide +kernel
theorem dX2_requireRecording_1 : decode cX2_requireRecording 1 = .ok (.getfield 10, 3) := by decide +kernel
theorem dX2_requireRecording_4 : decode cX2_requireRecording 4 = .ok (.iload_n 1, 1) := by decide +kernel
theorem dX2_requireRecording_5 : decode cX2_requireRecording 5 = .ok (.invokevirtual 276, 3) := by decide +kernel
theorem dX2_requireRecording_8 : decode cX2_requireRecording 8 = .ok (.ifCond .ne 14, 3) := by decide +kernel
theorem dX2_requireRecording_11 : decode cX2_requireRecording 11 = .ok (.new 279, 3) := by decide +kernel
theorem dX2_requireRecording_14 : decode cX2_requireRecording 14 = .ok (.dup, 1) := by decide +kernel
theorem dX2_requireRecording_15 : decode cX2_requireRecording 15 = .ok (.ldc_w 281, 3) := by decide +kernel
theorem dX2_requireRecording_18 : decode cX2_requireRecording 18 = .ok (.invokespecial 283, 3) := by decide +kernel
theorem dX2_requireRecording_21 : decode cX2_requireRecording 21 = .ok (.athrow, 1) := by decide +kernel
theorem dX2_requireRecording_22 : decode cX2_requireRecording 22 = .ok (.return_, 1) := by decide +kernel
theorem dX2_requirePlace_0 : decode cX2_requirePlace 0 = .ok (.aload_n 0, 1) := by decide +kernel
theorem dX2_requirePlace_1 : decode cX2_requirePlace 1 = .ok (.getfield 10, 3) := by decide +kernel
theorem dX2_requirePlace_4 : decode cX2_requirePlace 4 = .ok (.iload_n 1, 1) := by decide +kernel
theorem dX2_requirePlace_5 : decode cX2_requirePlace 5 = .ok (.invokevirtual 276, 3) := by decide +kernel
theorem dX2_requirePlace_8 : decode cX2_requirePlace 8 = .ok (.ifCond .eq 7, 3) := by decide +kernel
theorem dX2_requirePlace_11 : decode cX2_requirePlace 11 = .ok (.iload_n 2, 1) := by decide +kernel
theorem dX2_requirePlace_12 : decode cX2_requirePlace 12 = .ok (.ifCond .ge 14, 3) := by decide +kernel
theorem dX2_requirePlace_15 : decode cX2_requirePlace 15 = .ok (.new 279, 3) := by decide +kernel
theorem dX2_requirePlace_18 : decode cX2_requirePlace 18 = .ok (.dup, 1) := by decide +kernel
theorem dX2_requirePlace_19 : decode cX2_requirePlace 19 = .ok (.ldc_w 284, 3) := by decide +kernel
theorem dX2_requirePlace_22 : decode cX2_requirePlace 22 = .ok (.invokespecial 283, 3) := by decide +kernel
theorem dX2_requirePlace_25 : decode cX2_requirePlace 25 = .ok (.athrow, 1) := by decide +kernel
theorem dX2_requirePlace_26 : decode cX2_requirePlace 26 = .ok (.return_, 1) := by decide +kernel
theorem dX2_requirePlayer_0 : decode cX2_requirePlayer 0 = .ok (.aload_n 0, 1) := by decide +kernel
theorem dX2_requirePlayer_1 : decode cX2_requirePlayer 1 = .ok (.getfield 10, 3) := by decide +kernel
theorem dX2_requirePlayer_4 : decode cX2_requirePlayer 4 = .ok (.getfield 157, 3) := by decide +kernel
theorem dX2_requirePlayer_7 : decode cX2_requirePlayer 7 = .ok (.iconst (-1), 1) := by decide +kernel
theorem dX2_requirePlayer_8 : decode cX2_requirePlayer 8 = .ok (.if_icmp .ne 14, 3) := by decide +kernel
theorem dX2_requirePlayer_11 : decode cX2_requirePlayer 11 = .ok (.new 38, 3) := by decide +kernel
theorem dX2_requirePlayer_14 : decode cX2_requirePlayer 14 = .ok (.dup, 1) := by decide +kernel
theorem dX2_requirePlayer_15 : decode cX2_requirePlayer 15 = .ok (.ldc_w 286, 3) := by decide +kernel
theorem dX2_requirePlayer_18 : decode cX2_requirePlayer 18 = .ok (.invokespecial 42, 3) := by decide +kernel
theorem dX2_requirePlayer_21 : decode cX2_requirePlayer 21 = .ok (.athrow, 1) := by decide +kernel
theorem dX2_requirePlayer_22 : decode cX2_requirePlayer 22 = .ok (.return_, 1) := by decide +kernel
theorem dX2_requireCell_0 : decode cX2_requireCell 0 = .ok (.iload_n 0, 1) := by decide +kernel
theorem dX2_requireCell_1 : decode cX2_requireCell 1 = .ok (.ifCond .lt 9, 3) := by decide +kernel
theorem dX2_requireCell_4 : decode cX2_requireCell 4 = .ok (.iload_n 0, 1) := by decide +kernel
theorem dX2_requireCell_5 : decode cX2_requireCell 5 = .ok (.bipush 32, 2) := by decide +kernel
theorem dX2_requireCell_7 : decode cX2_requireCell 7 = .ok (.if_icmp .lt 14, 3) := by decide +kernel
theorem dX2_requireCell_10 : decode cX2_requireCell 10 = .ok (.new 279, 3) := by decide +kernel
theorem dX2_requireCell_13 : decode cX2_requireCell 13 = .ok (.dup, 1) := by decide +kernel
theorem dX2_requireCell_14 : decode cX2_requireCell 14 = .ok (.ldc_w 288, 3) := by decide +kernel
theorem dX2_requireCell_17 : decode cX2_requireCell 17 = .ok (.invokespecial 283, 3) := by decide +kernel
theorem dX2_requireCell_20 : decode cX2_requireCell 20 = .ok (.athrow, 1) := by decide +kernel
theorem dX2_requireCell_21 : decode cX2_requireCell 21 = .ok (.return_, 1) := by decide +kernel
theorem dX2_requireSound_0 : decode cX2_requireSound 0 = .ok (.iload_n 0, 1) := by decide +kernel
theorem dX2_requireSound_1 : decode cX2_requireSound 1 = .ok (.ifCond .lt 9, 3) := by decide +kernel
theorem dX2_requireSound_4 : decode cX2_requireSound 4 = .ok (.iload_n 0, 1) := by decide +kernel
theorem dX2_requireSound_5 : decode cX2_requireSound 5 = .ok (.bipush 99, 2) := by decide +kernel
theorem dX2_requireSound_7 : decode cX2_requireSound 7 = .ok (.if_icmp .le 14, 3) := by decide +kernel
theorem dX2_requireSound_10 : decode cX2_requireSound 10 = .ok (.new 149, 3) := by decide +kernel
theorem dX2_requireSound_13 : decode cX2_requireSound 13 = .ok (.dup, 1) := by decide +kernel
theorem dX2_requireSound_14 : decode cX2_requireSound 14 = .ok (.ldc_w 290, 3) := by decide +kernel
theorem dX2_requireSound_17 : decode cX2_requireSound 17 = .ok (.invokespecial 153, 3) := by decide +kernel
theorem dX2_requireSound_20 : decode cX2_requireSound 20 = .ok (.athrow, 1) := by decide +kernel
theorem dX2_requireSound_21 : decode cX2_requireSound 21 = .ok (.return_, 1) := by decide +kernel
theorem dX2_requireForecast_0 : decode cX2_requireForecast 0 = .ok (.iload_n 0, 1) := by decide +kernel
theorem dX2_requireForecast_1 : decode cX2_requireForecast 1 = .ok (.iconst 1, 1) := by decide +kernel
theorem dX2_requireForecast_2 : decode cX2_requireForecast 2 = .ok (.if_icmp .lt 9, 3) := by decide +kernel
theorem dX2_requireForecast_5 : decode cX2_requireForecast 5 = .ok (.iload_n 0, 1) := by decide +kernel
theorem dX2_requireForecast_6 : decode cX2_requireForecast 6 = .ok (.bipush 32, 2) := by decide +kernel
theorem dX2_requireForecast_8 : decode cX2_requireForecast 8 = .ok (.if_icmp .le 14, 3) := by decide +kernel
theorem dX2_requireForecast_11 : decode cX2_requireForecast 11 = .ok (.new 149, 3) := by decide +kernel
theorem dX2_requireForecast_14 : decode cX2_requireForecast 14 = .ok (.dup, 1) := by decide +kernel
theorem dX2_requireForecast_15 : decode cX2_requireForecast 15 = .ok (.ldc_w 292, 3) := by decide +kernel
theorem dX2_requireForecast_18 : decode cX2_requireForecast 18 = .ok (.invokespecial 153, 3) := by decide +kernel
theorem dX2_requireForecast_21 : decode cX2_requireForecast 21 = .ok (.athrow, 1) := by decide +kernel
theorem dX2_requireForecast_22 : decode cX2_requireForecast 22 = .ok (.return_, 1) := by decide +kernel
end
section
theorem dX3_init_0 : decode cX3_init 0 = .ok (.aload_n 0, 1) := by decide +kernel
theorem dX3_init_1 : decode cX3_init 1 = .ok (.invokespecial 1, 3) := by decide +kernel
theorem dX3_init_4 : decode cX3_init 4 = .ok (.aload_n 0, 1) := by decide +kernel
theorem dX3_init_5 : decode cX3_init 5 = .ok (.sipush 1085, 3) := by decide +kernel
theorem dX3_init_8 : decode cX3_init 8 = .ok (.newarray .int, 2) := by decide +kernel
theorem dX3_init_10 : decode cX3_init 10 = .ok (.putfield 7, 3) := by decide +kernel
theorem dX3_init_13 : decode cX3_init 13 = .ok (.aload_n 0, 1) := by decide +kernel
theorem dX3_init_14 : decode cX3_init 14 = .ok (.bipush 60, 2) := by decide +kernel
theorem dX3_init_16 : decode cX3_init 16 = .ok (.newarray .int, 2) := by decide +kernel
theorem dX3_init_18 : decode cX3_init 18 = .ok (.putfield 13, 3) := by decide +kernel
theorem dX3_init_21 : decode cX3_init 21 = .ok (.aload_n 0, 1) := by decide +kernel
theorem dX3_init_22 : decode cX3_init 22 = .ok (.getfield 7, 3) := by decide +kernel
theorem dX3_init_25 : decode cX3_init 25 = .ok (.iconst 1, 1) := by decide +kernel
theorem dX3_init_26 : decode cX3_init 26 = .ok (.iconst (-1), 1) := by decide +kernel
theorem dX3_init_27 : decode cX3_init 27 = .ok (.iastore, 1) := by decide +kernel
theorem dX3_init_28 : decode cX3_init 28 = .ok (.aload_n 0, 1) := by decide +kernel
theorem dX3_init_29 : decode cX3_init 29 = .ok (.getfield 7, 3) := by decide +kernel
theorem dX3_init_32 : decode cX3_init 32 = .ok (.iconst 5, 1) := by decide +kernel
theorem dX3_init_33 : decode cX3_init 33 = .ok (.iconst (-1), 1) := by decide +kernel
theorem dX3_init_34 : decode cX3_init 34 = .ok (.iastore, 1) := by decide +kernel
theorem dX3_init_35 : decode cX3_init 35 = .ok (.aload_n 0, 1) := by decide +kernel
theorem dX3_init_36 : decode cX3_init 36 = .ok (.getfield 7, 3) := by decide +kernel
theorem dX3_init_39 : decode cX3_init 39 = .ok (.bipush 6, 2) := by decide +kernel
theorem dX3_init_41 : decode cX3_init 41 = .ok (.iconst (-1), 1) := by decide +kernel
theorem dX3_init_42 : decode cX3_init 42 = .ok (.iastore, 1) := by decide +kernel
theorem dX3_init_43 : decode cX3_init 43 = .ok (.iconst 0, 1) := by decide +kernel
theorem dX3_init_44 : decode cX3_init 44 = .ok (.istore_n 1, 1) := by decide +kernel
theorem dX3_init_45 : decode cX3_init 45 = .ok (.iload_n 1, 1) := by decide +kernel
theorem dX3_init_46 : decode cX3_init 46 = .ok (.bipush 32, 2) := by decide +kernel
theorem dX3_init_48 : decode cX3_init 48 = .ok (.if_icmp .ge 19, 3) := by decide +kernel
theorem dX3_init_51 : decode cX3_init 51 = .ok (.aload_n 0, 1) := by decide +kernel
theorem dX3_init_52 : decode cX3_init 52 = .ok (.getfield 7, 3) := by decide +kernel
theorem dX3_init_55 : decode cX3_init 55 = .ok (.bipush 27, 2) := by decide +kernel
theorem dX3_init_57 : decode cX3_init 57 = .ok (.iload_n 1, 1) := by decide +kernel
theorem dX3_init_58 : decode cX3_init 58 = .ok (.iadd, 1) := by decide +kernel
theorem dX3_init_59 : decode cX3_init 59 = .ok (.iconst (-1), 1) := by decide +kernel
theorem dX3_init_60 : decode cX3_init 60 = .ok (.iastore, 1) := by decide +kernel
theorem dX3_init_61 : decode cX3_init 61 = .ok (.iinc 1 1, 3) := by decide +kernel
theorem dX3_init_64 : decode cX3_init 64 = .ok (.goto (-19), 3) := by decide +kernel
theorem dX3_init_67 : decode cX3_init 67 = .ok (.return_, 1) := by decide +kernel
theorem dX3_thrown_0 : decode cX3_thrown 0 = .ok (.aload_n 0, 1) := by decide +kernel
theorem dX3_thrown_1 : decode cX3_thrown 1 = .ok (.getfield 16, 3) := by decide +kernel
theorem dX3_thrown_4 : decode cX3_thrown 4 = .ok (.ireturn, 1) := by decide +kernel
theorem dX3_in_0 : decode cX3_in 0 = .ok (.iload_n 0, 1) := by decide +kernel
theorem dX3_in_1 : decode cX3_in 1 = .ok (.iload_n 1, 1) := by decide +kernel
theorem dX3_in_2 : decode cX3_in 2 = .ok (.if_icmp .lt 12, 3) := by decide +kernel
theorem dX3_in_5 : decode cX3_in 5 = .ok (.iload_n 0, 1) := by decide +kernel
theorem dX3_in_6 : decode cX3_in 6 = .ok (.iload_n 2, 1) := by decide +kernel
theorem dX3_in_7 : decode cX3_in 7 = .ok (.if_icmp .gt 7, 3) := by decide +kernel
theorem dX3_in_10 : decode cX3_in 10 = .ok (.iconst 1, 1) := by decide +kernel
theorem dX3_in_11 : decode cX3_in 11 = .ok (.goto 4, 3) := by decide +kernel
theorem dX3_in_14 : decode cX3_in 14 = .ok (.iconst 0, 1) := by decide +kernel
theorem dX3_in_15 : decode cX3_in 15 = .ok (.ireturn, 1) := by decide +kernel
theorem dX3_holds_0 : decode cX3_holds 0 = .ok (.aload_n 0, 1) := by decide +kernel
theorem dX3_holds_1 : decode cX3_holds 1 = .ok (.iload_n 1, 1) := by decide +kernel
theorem dX3_holds_2 : decode cX3_holds 2 = .ok (.putfield 16, 3) := by decide +kernel
theorem dX3_holds_5 : decode cX3_holds 5 = .ok (.iload_n 1, 1) := by decide +kernel
theorem dX3_holds_6 : decode cX3_holds 6 = .ok (.ifCond .ne 7, 3) := by decide +kernel
theorem dX3_holds_9 : decode cX3_holds 9 = .ok (.iconst 1, 1) := by decide +kernel
theorem dX3_holds_10 : decode cX3_holds 10 = .ok (.goto 4, 3) := by decide +kernel
theorem dX3_holds_13 : decode cX3_holds 13 = .ok (.iconst 0, 1) := by decide +kernel
theorem dX3_holds_14 : decode cX3_holds 14 = .ok (.ireturn, 1) := by decide +kernel
theorem dX3_told_0 : decode cX3_told 0 = .ok (.aload_n 0, 1) := by decide +kernel
theorem dX3_told_1 : decode cX3_told 1 = .ok (.iconst 0, 1) := by decide +kernel
theorem dX3_told_2 : decode cX3_told 2 = .ok (.putfield 16, 3) := by decide +kernel
theorem dX3_told_5 : decode cX3_told 5 = .ok (.iload_n 1, 1) := by decide +kernel
theorem dX3_told_6 : decode cX3_told 6 = .ok (.ireturn, 1) := by decide +kernel
theorem dX3_isRecording_0 : decode cX3_isRecording 0 = .ok (.iload_n 1, 1) := by decide +kernel
theorem dX3_isRecording_1 : decode cX3_isRecording 1 = .ok (.iconst 0, 1) := by decide +kernel
theorem dX3_isRecording_2 : decode cX3_isRecording 2 = .ok (.aload_n 0, 1) := by decide +kernel
theorem dX3_isRecording_3 : decode cX3_isRecording 3 = .ok (.getfield 7, 3) := by decide +kernel
theorem dX3_isRecording_6 : decode cX3_isRecording 6 = .ok (.iconst 0, 1) := by decide +kernel
theorem dX3_isRecording_7 : decode cX3_isRecording 7 = .ok (.iaload, 1) := by decide +kernel
theorem dX3_isRecording_8 : decode cX3_isRecording 8 = .ok (.iconst 1, 1) := by decide +kernel
theorem dX3_isRecording_9 : decode cX3_isRecording 9 = .ok (.isub, 1) := by decide +kernel
theorem dX3_isRecording_10 : decode cX3_isRecording 10 = .ok (.invokestatic 20, 3) := by decide +kernel
theorem dX3_isRecording_13 : decode cX3_isRecording 13 = .ok (.ireturn, 1) := by decide +kernel
theorem dX3_isCell_0 : decode cX3_isCell 0 = .ok (.iload_n 0, 1) := by decide +kernel
theorem dX3_isCell_1 : decode cX3_isCell 1 = .ok (.iconst 0, 1) := by decide +kernel
theorem dX3_isCell_2 : decode cX3_isCell 2 = .ok (.bipush 31, 2) := by decide +kernel
theorem dX3_isCell_4 : decode cX3_isCell 4 = .ok (.invokestatic 20, 3) := by decide +kernel
theorem dX3_isCell_7 : decode cX3_isCell 7 = .ok (.ireturn, 1) := by decide +kernel
theorem dX3_cells_0 : decode cX3_cells 0 = .ok (.iconst 0, 1) := by decide +kernel
theorem dX3_cells_1 : decode cX3_cells 1 = .ok (.istore_n 2, 1) := by decide +kernel
theorem dX3_cells_2 : decode cX3_cells 2 = .ok (.iconst 0, 1) := by decide +kernel
theorem dX3_cells_3 : decode cX3_cells 3 = .ok (.istore_n 3, 1) := by decide +kernel
theorem dX3_cells_4 : decode cX3_cells 4 = .ok (.iload_n 3, 1) := by decide +kernel
theorem dX3_cells_5 : decode cX3_cells 5 = .ok (.bipush 32, 2) := by decide +kernel
theorem dX3_cells_7 : decode cX3_cells 7 = .ok (.if_icmp .ge 30, 3) := by decide +kernel
theorem dX3_cells_10 : decode cX3_cells 10 = .ok (.iload_n 2, 1) := by decide +kernel
theorem dX3_cells_11 : decode cX3_cells 11 = .ok (.aload_n 0, 1) := by decide +kernel
theorem dX3_cells_12 : decode cX3_cells 12 = .ok (.getfield 7, 3) := by decide +kernel
theorem dX3_cells_15 : decode cX3_cells 15 = .ok (.bipush 27, 2) := by decide +kernel
theorem dX3_cells_17 : decode cX3_cells 17 = .ok (.iload_n 3, 1) := by decide +kernel
theorem dX3_cells_18 : decode cX3_cells 18 = .ok (.iadd, 1) := by decide +kernel
theorem dX3_cells_19 : decode cX3_cells 19 = .ok (.iaload, 1) := by decide +kernel
theorem dX3_cells_20 : decode cX3_cells 20 = .ok (.iload_n 1, 1) := by decide +kernel
theorem dX3_cells_21 : decode cX3_cells 21 = .ok (.if_icmp .ne 7, 3) := by decide +kernel
theorem dX3_cells_24 : decode cX3_cells 24 = .ok (.iconst 1, 1) := by decide +kernel
theorem dX3_cells_25 : decode cX3_cells 25 = .ok (.goto 4, 3) := by decide +kernel
theorem dX3_cells_28 : decode cX3_cells 28 = .ok (.iconst 0, 1) := by decide +kernel
theorem dX3_cells_29 : decode cX3_cells 29 = .ok (.iadd, 1) := by decide +kernel
theorem dX3_cells_30 : decode cX3_cells 30 = .ok (.istore_n 2, 1) := by decide +kernel
theorem dX3_cells_31 : decode cX3_cells 31 = .ok (.iinc 3 1, 3) := by decide +kernel
theorem dX3_cells_34 : decode cX3_cells 34 = .ok (.goto (-30), 3) := by decide +kernel
theorem dX3_cells_37 : decode cX3_cells 37 = .ok (.iload_n 2, 1) := by decide +kernel
theorem dX3_cells_38 : decode cX3_cells 38 = .ok (.ireturn, 1) := by decide +kernel
theorem dX3_placeOf_0 : decode cX3_placeOf 0 = .ok (.iconst 0, 1) := by decide +kernel
theorem dX3_placeOf_1 : decode cX3_placeOf 1 = .ok (.istore_n 2, 1) := by decide +kernel
theorem dX3_placeOf_2 : decode cX3_placeOf 2 = .ok (.iconst 0, 1) := by decide +kernel
theorem dX3_placeOf_3 : decode cX3_placeOf 3 = .ok (.istore_n 3, 1) := by decide +kernel
theorem dX3_placeOf_4 : decode cX3_placeOf 4 = .ok (.iload_n 3, 1) := by decide +kernel
theorem dX3_placeOf_5 : decode cX3_placeOf 5 = .ok (.bipush 32, 2) := by decide +kernel
theorem dX3_placeOf_7 : decode cX3_placeOf 7 = .ok (.if_icmp .ge 59, 3) := by decide +kernel
theorem dX3_placeOf_10 : decode cX3_placeOf 10 = .ok (.iload_n 2, 1) := by decide +kernel
theorem dX3_placeOf_11 : decode cX3_placeOf 11 = .ok (.aload_n 0, 1) := by decide +kernel
theorem dX3_placeOf_12 : decode cX3_placeOf 12 = .ok (.getfield 7, 3) := by decide +kernel
theorem dX3_placeOf_15 : decode cX3_placeOf 15 = .ok (.bipush 27, 2) := by decide +kernel
theorem dX3_placeOf_17 : decode cX3_placeOf 17 = .ok (.iload_n 3, 1) := by decide +kernel
theorem dX3_placeOf_18 : decode cX3_placeOf 18 = .ok (.iadd, 1) := by decide +kernel
theorem dX3_placeOf_19 : decode cX3_placeOf 19 = .ok (.iaload, 1) := by decide +kernel
theorem dX3_placeOf_20 : decode cX3_placeOf 20 = .ok (.aload_n 0, 1) := by decide +kernel
theorem dX3_placeOf_21 : decode cX3_placeOf 21 = .ok (.getfield 7, 3) := by decide +kernel
theorem dX3_placeOf_24 : decode cX3_placeOf 24 = .ok (.bipush 27, 2) := by decide +kernel
theorem dX3_placeOf_26 : decode cX3_placeOf 26 = .ok (.iload_n 1, 1) := by decide +kernel
theorem dX3_placeOf_27 : decode cX3_placeOf 27 = .ok (.iadd, 1) := by decide +kernel
theorem dX3_placeOf_28 : decode cX3_placeOf 28 = .ok (.iaload, 1) := by decide +kernel
theorem dX3_placeOf_29 : decode cX3_placeOf 29 = .ok (.if_icmp .ne 28, 3) := by decide +kernel
theorem dX3_placeOf_32 : decode cX3_placeOf 32 = .ok (.aload_n 0, 1) := by decide +kernel
theorem dX3_placeOf_33 : decode cX3_placeOf 33 = .ok (.getfield 7, 3) := by decide +kernel
theorem dX3_placeOf_36 : decode cX3_placeOf 36 = .ok (.bipush 123, 2) := by decide +kernel
theorem dX3_placeOf_38 : decode cX3_placeOf 38 = .ok (.iload_n 3, 1) := by decide +kernel
theorem dX3_placeOf_39 : decode cX3_placeOf 39 = .ok (.iadd, 1) := by decide +kernel
theorem dX3_placeOf_40 : decode cX3_placeOf 40 = .ok (.iaload, 1) := by decide +kernel
theorem dX3_placeOf_41 : decode cX3_placeOf 41 = .ok (.aload_n 0, 1) := by decide +kernel
theorem dX3_placeOf_42 : decode cX3_placeOf 42 = .ok (.getfield 7, 3) := by decide +kernel
theorem dX3_placeOf_45 : decode cX3_placeOf 45 = .ok (.bipush 123, 2) := by decide +kernel
theorem dX3_placeOf_47 : decode cX3_placeOf 47 = .ok (.iload_n 1, 1) := by decide +kernel
theorem dX3_placeOf_48 : decode cX3_placeOf 48 = .ok (.iadd, 1) := by decide +kernel
theorem dX3_placeOf_49 : decode cX3_placeOf 49 = .ok (.iaload, 1) := by decide +kernel
theorem dX3_placeOf_50 : decode cX3_placeOf 50 = .ok (.if_icmp .ge 7, 3) := by decide +kernel
theorem dX3_placeOf_53 : decode cX3_placeOf 53 = .ok (.iconst 1, 1) := by decide +kernel
theorem dX3_placeOf_54 : decode cX3_placeOf 54 = .ok (.goto 4, 3) := by decide +kernel
theorem dX3_placeOf_57 : decode cX3_placeOf 57 = .ok (.iconst 0, 1) := by decide +kernel
theorem dX3_placeOf_58 : decode cX3_placeOf 58 = .ok (.iadd, 1) := by decide +kernel
theorem dX3_placeOf_59 : decode cX3_placeOf 59 = .ok (.istore_n 2, 1) := by decide +kernel
theorem dX3_placeOf_60 : decode cX3_placeOf 60 = .ok (.iinc 3 1, 3) := by decide +kernel
theorem dX3_placeOf_63 : decode cX3_placeOf 63 = .ok (.goto (-59), 3) := by decide +kernel
theorem dX3_placeOf_66 : decode cX3_placeOf 66 = .ok (.iload_n 2, 1) := by decide +kernel
theorem dX3_placeOf_67 : decode cX3_placeOf 67 = .ok (.ireturn, 1) := by decide +kernel
theorem dX3_cellAt_0 : decode cX3_cellAt 0 = .ok (.iconst 0, 1) := by decide +kernel
theorem dX3_cellAt_1 : decode cX3_cellAt 1 = .ok (.istore_n 3, 1) := by decide +kernel
theorem dX3_cellAt_2 : decode cX3_cellAt 2 = .ok (.iload_n 3, 1) := by decide +kernel
theorem dX3_cellAt_3 : decode cX3_cellAt 3 = .ok (.bipush 32, 2) := by decide +kernel
theorem dX3_cellAt_5 : decode cX3_cellAt 5 = .ok (.if_icmp .ge 33, 3) := by decide +kernel
theorem dX3_cellAt_8 : decode cX3_cellAt 8 = .ok (.aload_n 0, 1) := by decide +kernel
theorem dX3_cellAt_9 : decode cX3_cellAt 9 = .ok (.getfield 7, 3) := by decide +kernel
theorem dX3_cellAt_12 : decode cX3_cellAt 12 = .ok (.bipush 27, 2) := by decide +kernel
theorem dX3_cellAt_14 : decode cX3_cellAt 14 = .ok (.iload_n 3, 1) := by decide +kernel
theorem dX3_cellAt_15 : decode cX3_cellAt 15 = .ok (.iadd, 1) := by decide +kernel
theorem dX3_cellAt_16 : decode cX3_cellAt 16 = .ok (.iaload, 1) := by decide +kernel
theorem dX3_cellAt_17 : decode cX3_cellAt 17 = .ok (.iload_n 1, 1) := by decide +kernel
theorem dX3_cellAt_18 : decode cX3_cellAt 18 = .ok (.if_icmp .ne 14, 3) := by decide +kernel
theorem dX3_cellAt_21 : decode cX3_cellAt 21 = .ok (.aload_n 0, 1) := by decide +kernel
theorem dX3_cellAt_22 : decode cX3_cellAt 22 = .ok (.iload_n 3, 1) := by decide +kernel
theorem dX3_cellAt_23 : decode cX3_cellAt 23 = .ok (.invokevirtual 24, 3) := by decide +kernel
theorem dX3_cellAt_26 : decode cX3_cellAt 26 = .ok (.iload_n 2, 1) := by decide +kernel
theorem dX3_cellAt_27 : decode cX3_cellAt 27 = .ok (.if_icmp .ne 5, 3) := by decide +kernel
theorem dX3_cellAt_30 : decode cX3_cellAt 30 = .ok (.iload_n 3, 1) := by decide +kernel
theorem dX3_cellAt_31 : decode cX3_cellAt 31 = .ok (.ireturn, 1) := by decide +kernel
theorem dX3_cellAt_32 : decode cX3_cellAt 32 = .ok (.iinc 3 1, 3) := by decide +kernel
theorem dX3_cellAt_35 : decode cX3_cellAt 35 = .ok (.goto (-33), 3) := by decide +kernel
theorem dX3_cellAt_38 : decode cX3_cellAt 38 = .ok (.iconst (-1), 1) := by decide +kernel
theorem dX3_cellAt_39 : decode cX3_cellAt 39 = .ok (.ireturn, 1) := by decide +kernel
theorem dX3_isWritable_0 : decode cX3_isWritable 0 = .ok (.aload_n 0, 1) := by decide +kernel
theorem dX3_isWritable_1 : decode cX3_isWritable 1 = .ok (.getfield 7, 3) := by decide +kernel
theorem dX3_isWritable_4 : decode cX3_isWritable 4 = .ok (.bipush 27, 2) := by decide +kernel
theorem dX3_isWritable_6 : decode cX3_isWritable 6 = .ok (.iload_n 1, 1) := by decide +kernel
theorem dX3_isWritable_7 : decode cX3_isWritable 7 = .ok (.iadd, 1) := by decide +kernel
theorem dX3_isWritable_8 : decode cX3_isWritable 8 = .ok (.iaload, 1) := by decide +kernel
theorem dX3_isWritable_9 : decode cX3_isWritable 9 = .ok (.istore_n 2, 1) := by decide +kernel
theorem dX3_isWritable_10 : decode cX3_isWritable 10 = .ok (.iload_n 2, 1) := by decide +kernel
theorem dX3_isWritable_11 : decode cX3_isWritable 11 = .ok (.iconst (-1), 1) := by decide +kernel
theorem dX3_isWritable_12 : decode cX3_isWritable 12 = .ok (.if_icmp .eq 25, 3) := by decide +kernel
theorem dX3_isWritable_15 : decode cX3_isWritable 15 = .ok (.iload_n 2, 1) := by decide +kernel
theorem dX3_isWritable_16 : decode cX3_isWritable 16 = .ok (.aload_n 0, 1) := by decide +kernel
theorem dX3_isWritable_17 : decode cX3_isWritable 17 = .ok (.getfield 7, 3) := by decide +kernel
theorem dX3_isWritable_20 : decode cX3_isWritable 20 = .ok (.iconst 1, 1) := by decide +kernel
theorem dX3_isWritable_21 : decode cX3_isWritable 21 = .ok (.iaload, 1) := by decide +kernel
theorem dX3_isWritable_22 : decode cX3_isWritable 22 = .ok (.if_icmp .eq 19, 3) := by decide +kernel
theorem dX3_isWritable_25 : decode cX3_isWritable 25 = .ok (.aload_n 0, 1) := by decide +kernel
theorem dX3_isWritable_26 : decode cX3_isWritable 26 = .ok (.getfield 7, 3) := by decide +kernel
theorem dX3_isWritable_29 : decode cX3_isWritable 29 = .ok (.bipush 7, 2) := by decide +kernel
theorem dX3_isWritable_31 : decode cX3_isWritable 31 = .ok (.iload_n 2, 1) := by decide +kernel
theorem dX3_isWritable_32 : decode cX3_isWritable 32 = .ok (.iadd, 1) := by decide +kernel
theorem dX3_isWritable_33 : decode cX3_isWritable 33 = .ok (.iaload, 1) := by decide +kernel
theorem dX3_isWritable_34 : decode cX3_isWritable 34 = .ok (.ifCond .ne 7, 3) := by decide +kernel
theorem dX3_isWritable_37 : decode cX3_isWritable 37 = .ok (.iconst 1, 1) := by decide +kernel
theorem dX3_isWritable_38 : decode cX3_isWritable 38 = .ok (.goto 4, 3) := by decide +kernel
theorem dX3_isWritable_41 : decode cX3_isWritable 41 = .ok (.iconst 0, 1) := by decide +kernel
theorem dX3_isWritable_42 : decode cX3_isWritable 42 = .ok (.ireturn, 1) := by decide +kernel
theorem dX3_writable_0 : decode cX3_writable 0 = .ok (.iconst 0, 1) := by decide +kernel
theorem dX3_writable_1 : decode cX3_writable 1 = .ok (.istore_n 1, 1) := by decide +kernel
theorem dX3_writable_2 : decode cX3_writable 2 = .ok (.iconst 0, 1) := by decide +kernel
theorem dX3_writable_3 : decode cX3_writable 3 = .ok (.istore_n 2, 1) := by decide +kernel
theorem dX3_writable_4 : decode cX3_writable 4 = .ok (.iload_n 2, 1) := by decide +kernel
theorem dX3_writable_5 : decode cX3_writable 5 = .ok (.bipush 32, 2) := by decide +kernel
theorem dX3_writable_7 : decode cX3_writable 7 = .ok (.if_icmp .ge 25, 3) := by decide +kernel
theorem dX3_writable_10 : decode cX3_writable 10 = .ok (.iload_n 1, 1) := by decide +kernel
theorem dX3_writable_11 : decode cX3_writable 11 = .ok (.aload_n 0, 1) := by decide +kernel
theorem dX3_writable_12 : decode cX3_writable 12 = .ok (.iload_n 2, 1) := by decide +kernel
theorem dX3_writable_13 : decode cX3_writable 13 = .ok (.invokevirtual 28, 3) := by decide +kernel
theorem dX3_writable_16 : decode cX3_writable 16 = .ok (.ifCond .eq 7, 3) := by decide +kernel
theorem dX3_writable_19 : decode cX3_writable 19 = .ok (.iconst 1, 1) := by decide +kernel
theorem dX3_writable_20 : decode cX3_writable 20 = .ok (.goto 4, 3) := by decide +kernel
theorem dX3_writable_23 : decode cX3_writable 23 = .ok (.iconst 0, 1) := by decide +kernel
theorem dX3_writable_24 : decode cX3_writable 24 = .ok (.iadd, 1) := by decide +kernel
theorem dX3_writable_25 : decode cX3_writable 25 = .ok (.istore_n 1, 1) := by decide +kernel
theorem dX3_writable_26 : decode cX3_writable 26 = .ok (.iinc 2 1, 3) := by decide +kernel
theorem dX3_writable_29 : decode cX3_writable 29 = .ok (.goto (-25), 3) := by decide +kernel
theorem dX3_writable_32 : decode cX3_writable 32 = .ok (.iload_n 1, 1) := by decide +kernel
theorem dX3_writable_33 : decode cX3_writable 33 = .ok (.ireturn, 1) := by decide +kernel
theorem dX3_leaves_0 : decode cX3_leaves 0 = .ok (.iconst 0, 1) := by decide +kernel
theorem dX3_leaves_1 : decode cX3_leaves 1 = .ok (.istore_n 2, 1) := by decide +kernel
theorem dX3_leaves_2 : decode cX3_leaves 2 = .ok (.iload_n 2, 1) := by decide +kernel
theorem dX3_leaves_3 : decode cX3_leaves 3 = .ok (.bipush 32, 2) := by decide +kernel
theorem dX3_leaves_5 : decode cX3_leaves 5 = .ok (.if_icmp .ge 49, 3) := by decide +kernel
theorem dX3_leaves_8 : decode cX3_leaves 8 = .ok (.aload_n 0, 1) := by decide +kernel
theorem dX3_leaves_9 : decode cX3_leaves 9 = .ok (.getfield 7, 3) := by decide +kernel
theorem dX3_leaves_12 : decode cX3_leaves 12 = .ok (.bipush 27, 2) := by decide +kernel
theorem dX3_leaves_14 : decode cX3_leaves 14 = .ok (.iload_n 2, 1) := by decide +kernel
theorem dX3_leaves_15 : decode cX3_leaves 15 = .ok (.iadd, 1) := by decide +kernel
theorem dX3_leaves_16 : decode cX3_leaves 16 = .ok (.iaload, 1) := by decide +kernel
theorem dX3_leaves_17 : decode cX3_leaves 17 = .ok (.istore_n 3, 1) := by decide +kernel
theorem dX3_leaves_18 : decode cX3_leaves 18 = .ok (.aload_n 0, 1) := by decide +kernel
theorem dX3_leaves_19 : decode cX3_leaves 19 = .ok (.getfield 7, 3) := by decide +kernel
theorem dX3_leaves_22 : decode cX3_leaves 22 = .ok (.bipush 27, 2) := by decide +kernel
theorem dX3_leaves_24 : decode cX3_leaves 24 = .ok (.iload_n 2, 1) := by decide +kernel
theorem dX3_leaves_25 : decode cX3_leaves 25 = .ok (.iadd, 1) := by decide +kernel
theorem dX3_leaves_26 : decode cX3_leaves 26 = .ok (.iload_n 3, 1) := by decide +kernel
theorem dX3_leaves_27 : decode cX3_leaves 27 = .ok (.iload_n 1, 1) := by decide +kernel
theorem dX3_leaves_28 : decode cX3_leaves 28 = .ok (.if_icmp .ne 7, 3) := by decide +kernel
theorem dX3_leaves_31 : decode cX3_leaves 31 = .ok (.iconst (-1), 1) := by decide +kernel
theorem dX3_leaves_32 : decode cX3_leaves 32 = .ok (.goto 15, 3) := by decide +kernel
theorem dX3_leaves_35 : decode cX3_leaves 35 = .ok (.iload_n 3, 1) := by decide +kernel
theorem dX3_leaves_36 : decode cX3_leaves 36 = .ok (.iload_n 1, 1) := by decide +kernel
theorem dX3_leaves_37 : decode cX3_leaves 37 = .ok (.if_icmp .le 9, 3) := by decide +kernel
theorem dX3_leaves_40 : decode cX3_leaves 40 = .ok (.iload_n 3, 1) := by decide +kernel
theorem dX3_leaves_41 : decode cX3_leaves 41 = .ok (.iconst 1, 1) := by decide +kernel
theorem dX3_leaves_42 : decode cX3_leaves 42 = .ok (.isub, 1) := by decide +kernel
theorem dX3_leaves_43 : decode cX3_leaves 43 = .ok (.goto 4, 3) := by decide +kernel
theorem dX3_leaves_46 : decode cX3_leaves 46 = .ok (.iload_n 3, 1) := by decide +kernel
theorem dX3_leaves_47 : decode cX3_leaves 47 = .ok (.iastore, 1) := by decide +kernel
theorem dX3_leaves_48 : decode cX3_leaves 48 = .ok (.iinc 2 1, 3) := by decide +kernel
theorem dX3_leaves_51 : decode cX3_leaves 51 = .ok (.goto (-49), 3) := by decide +kernel
theorem dX3_leaves_54 : decode cX3_leaves 54 = .ok (.aload_n 0, 1) := by decide +kernel
theorem dX3_leaves_55 : decode cX3_leaves 55 = .ok (.getfield 7, 3) := by decide +kernel
theorem dX3_leaves_58 : decode cX3_leaves 58 = .ok (.iconst 0, 1) := by decide +kernel
theorem dX3_leaves_59 : decode cX3_leaves 59 = .ok (.dup2, 1) := by decide +kernel
theorem dX3_leaves_60 : decode cX3_leaves 60 = .ok (.iaload, 1) := by decide +kernel
theorem dX3_leaves_61 : decode cX3_leaves 61 = .ok (.iconst 1, 1) := by decide +kernel
theorem dX3_leaves_62 : decode cX3_leaves 62 = .ok (.isub, 1) := by decide +kernel
theorem dX3_leaves_63 : decode cX3_leaves 63 = .ok (.iastore, 1) := by decide +kernel
theorem dX3_leaves_64 : decode cX3_leaves 64 = .ok (.iload_n 1, 1) := by decide +kernel
theorem dX3_leaves_65 : decode cX3_leaves 65 = .ok (.istore_n 2, 1) := by decide +kernel
theorem dX3_leaves_66 : decode cX3_leaves 66 = .ok (.iload_n 2, 1) := by decide +kernel
theorem dX3_leaves_67 : decode cX3_leaves 67 = .ok (.aload_n 0, 1) := by decide +kernel
theorem dX3_leaves_68 : decode cX3_leaves 68 = .ok (.getfield 7, 3) := by decide +kernel
theorem dX3_leaves_71 : decode cX3_leaves 71 = .ok (.iconst 0, 1) := by decide +kernel
theorem dX3_leaves_72 : decode cX3_leaves 72 = .ok (.iaload, 1) := by decide +kernel
theorem dX3_leaves_73 : decode cX3_leaves 73 = .ok (.if_icmp .ge 49, 3) := by decide +kernel
theorem dX3_leaves_76 : decode cX3_leaves 76 = .ok (.aload_n 0, 1) := by decide +kernel
theorem dX3_leaves_77 : decode cX3_leaves 77 = .ok (.getfield 7, 3) := by decide +kernel
theorem dX3_leaves_80 : decode cX3_leaves 80 = .ok (.bipush 7, 2) := by decide +kernel
theorem dX3_leaves_82 : decode cX3_leaves 82 = .ok (.iload_n 2, 1) := by decide +kernel
theorem dX3_leaves_83 : decode cX3_leaves 83 = .ok (.iadd, 1) := by decide +kernel
theorem dX3_leaves_84 : decode cX3_leaves 84 = .ok (.aload_n 0, 1) := by decide +kernel
theorem dX3_leaves_85 : decode cX3_leaves 85 = .ok (.getfield 7, 3) := by decide +kernel
theorem dX3_leaves_88 : decode cX3_leaves 88 = .ok (.bipush 7, 2) := by decide +kernel
theorem dX3_leaves_90 : decode cX3_leaves 90 = .ok (.iload_n 2, 1) := by decide +kernel
theorem dX3_leaves_91 : decode cX3_leaves 91 = .ok (.iadd, 1) := by decide +kernel
theorem dX3_leaves_92 : decode cX3_leaves 92 = .ok (.iconst 1, 1) := by decide +kernel
theorem dX3_leaves_93 : decode cX3_leaves 93 = .ok (.iadd, 1) := by decide +kernel
theorem dX3_leaves_94 : decode cX3_leaves 94 = .ok (.iaload, 1) := by decide +kernel
theorem dX3_leaves_95 : decode cX3_leaves 95 = .ok (.iastore, 1) := by decide +kernel
theorem dX3_leaves_96 : decode cX3_leaves 96 = .ok (.aload_n 0, 1) := by decide +kernel
theorem dX3_leaves_97 : decode cX3_leaves 97 = .ok (.getfield 7, 3) := by decide +kernel
theorem dX3_leaves_100 : decode cX3_leaves 100 = .ok (.bipush 17, 2) := by decide +kernel
theorem dX3_leaves_102 : decode cX3_leaves 102 = .ok (.iload_n 2, 1) := by decide +kernel
theorem dX3_leaves_103 : decode cX3_leaves 103 = .ok (.iadd, 1) := by decide +kernel
theorem dX3_leaves_104 : decode cX3_leaves 104 = .ok (.aload_n 0, 1) := by decide +kernel
theorem dX3_leaves_105 : decode cX3_leaves 105 = .ok (.getfield 7, 3) := by decide +kernel
theorem dX3_leaves_108 : decode cX3_leaves 108 = .ok (.bipush 17, 2) := by decide +kernel
theorem dX3_leaves_110 : decode cX3_leaves 110 = .ok (.iload_n 2, 1) := by decide +kernel
theorem dX3_leaves_111 : decode cX3_leaves 111 = .ok (.iadd, 1) := by decide +kernel
theorem dX3_leaves_112 : decode cX3_leaves 112 = .ok (.iconst 1, 1) := by decide +kernel
theorem dX3_leaves_113 : decode cX3_leaves 113 = .ok (.iadd, 1) := by decide +kernel
theorem dX3_leaves_114 : decode cX3_leaves 114 = .ok (.iaload, 1) := by decide +kernel
theorem dX3_leaves_115 : decode cX3_leaves 115 = .ok (.iastore, 1) := by decide +kernel
theorem dX3_leaves_116 : decode cX3_leaves 116 = .ok (.iinc 2 1, 3) := by decide +kernel
theorem dX3_leaves_119 : decode cX3_leaves 119 = .ok (.goto (-53), 3) := by decide +kernel
theorem dX3_leaves_122 : decode cX3_leaves 122 = .ok (.aload_n 0, 1) := by decide +kernel
theorem dX3_leaves_123 : decode cX3_leaves 123 = .ok (.getfield 7, 3) := by decide +kernel
theorem dX3_leaves_126 : decode cX3_leaves 126 = .ok (.iconst 1, 1) := by decide +kernel
theorem dX3_leaves_127 : decode cX3_leaves 127 = .ok (.aload_n 0, 1) := by decide +kernel
theorem dX3_leaves_128 : decode cX3_leaves 128 = .ok (.getfield 7, 3) := by decide +kernel
theorem dX3_leaves_131 : decode cX3_leaves 131 = .ok (.iconst 1, 1) := by decide +kernel
theorem dX3_leaves_132 : decode cX3_leaves 132 = .ok (.iaload, 1) := by decide +kernel
theorem dX3_leaves_133 : decode cX3_leaves 133 = .ok (.iload_n 1, 1) := by decide +kernel
theorem dX3_leaves_134 : decode cX3_leaves 134 = .ok (.if_icmp .ne 7, 3) := by decide +kernel
theorem dX3_leaves_137 : decode cX3_leaves 137 = .ok (.iconst (-1), 1) := by decide +kernel
theorem dX3_leaves_138 : decode cX3_leaves 138 = .ok (.goto 30, 3) := by decide +kernel
theorem dX3_leaves_141 : decode cX3_leaves 141 = .ok (.aload_n 0, 1) := by decide +kernel
theorem dX3_leaves_142 : decode cX3_leaves 142 = .ok (.getfield 7, 3) := by decide +kernel
theorem dX3_leaves_145 : decode cX3_leaves 145 = .ok (.iconst 1, 1) := by decide +kernel
theorem dX3_leaves_146 : decode cX3_leaves 146 = .ok (.iaload, 1) := by decide +kernel
theorem dX3_leaves_147 : decode cX3_leaves 147 = .ok (.iload_n 1, 1) := by decide +kernel
theorem dX3_leaves_148 : decode cX3_leaves 148 = .ok (.if_icmp .le 14, 3) := by decide +kernel
theorem dX3_leaves_151 : decode cX3_leaves 151 = .ok (.aload_n 0, 1) := by decide +kernel
theorem dX3_leaves_152 : decode cX3_leaves 152 = .ok (.getfield 7, 3) := by decide +kernel
theorem dX3_leaves_155 : decode cX3_leaves 155 = .ok (.iconst 1, 1) := by decide +kernel
theorem dX3_leaves_156 : decode cX3_leaves 156 = .ok (.iaload, 1) := by decide +kernel
theorem dX3_leaves_157 : decode cX3_leaves 157 = .ok (.iconst 1, 1) := by decide +kernel
theorem dX3_leaves_158 : decode cX3_leaves 158 = .ok (.isub, 1) := by decide +kernel
theorem dX3_leaves_159 : decode cX3_leaves 159 = .ok (.goto 9, 3) := by decide +kernel
theorem dX3_leaves_162 : decode cX3_leaves 162 = .ok (.aload_n 0, 1) := by decide +kernel
theorem dX3_leaves_163 : decode cX3_leaves 163 = .ok (.getfield 7, 3) := by decide +kernel
theorem dX3_leaves_166 : decode cX3_leaves 166 = .ok (.iconst 1, 1) := by decide +kernel
theorem dX3_leaves_167 : decode cX3_leaves 167 = .ok (.iaload, 1) := by decide +kernel
theorem dX3_leaves_168 : decode cX3_leaves 168 = .ok (.iastore, 1) := by decide +kernel
theorem dX3_leaves_169 : decode cX3_leaves 169 = .ok (.aload_n 0, 1) := by decide +kernel
theorem dX3_leaves_170 : decode cX3_leaves 170 = .ok (.getfield 7, 3) := by decide +kernel
theorem dX3_leaves_173 : decode cX3_leaves 173 = .ok (.bipush 6, 2) := by decide +kernel
theorem dX3_leaves_175 : decode cX3_leaves 175 = .ok (.aload_n 0, 1) := by decide +kernel
theorem dX3_leaves_176 : decode cX3_leaves 176 = .ok (.getfield 7, 3) := by decide +kernel
theorem dX3_leaves_179 : decode cX3_leaves 179 = .ok (.iconst 5, 1) := by decide +kernel
theorem dX3_leaves_180 : decode cX3_leaves 180 = .ok (.iaload, 1) := by decide +kernel
theorem dX3_leaves_181 : decode cX3_leaves 181 = .ok (.iload_n 1, 1) := by decide +kernel
theorem dX3_leaves_182 : decode cX3_leaves 182 = .ok (.if_icmp .ne 7, 3) := by decide +kernel
theorem dX3_leaves_185 : decode cX3_leaves 185 = .ok (.iconst (-1), 1) := by decide +kernel
theorem dX3_leaves_186 : decode cX3_leaves 186 = .ok (.goto 10, 3) := by decide +kernel
theorem dX3_leaves_189 : decode cX3_leaves 189 = .ok (.aload_n 0, 1) := by decide +kernel
theorem dX3_leaves_190 : decode cX3_leaves 190 = .ok (.getfield 7, 3) := by decide +kernel
theorem dX3_leaves_193 : decode cX3_leaves 193 = .ok (.bipush 6, 2) := by decide +kernel
theorem dX3_leaves_195 : decode cX3_leaves 195 = .ok (.iaload, 1) := by decide +kernel
theorem dX3_leaves_196 : decode cX3_leaves 196 = .ok (.iastore, 1) := by decide +kernel
theorem dX3_leaves_197 : decode cX3_leaves 197 = .ok (.aload_n 0, 1) := by decide +kernel
theorem dX3_leaves_198 : decode cX3_leaves 198 = .ok (.getfield 7, 3) := by decide +kernel
theorem dX3_leaves_201 : decode cX3_leaves 201 = .ok (.iconst 5, 1) := by decide +kernel
theorem dX3_leaves_202 : decode cX3_leaves 202 = .ok (.aload_n 0, 1) := by decide +kernel
theorem dX3_leaves_203 : decode cX3_leaves 203 = .ok (.getfield 7, 3) := by decide +kernel
theorem dX3_leaves_206 : decode cX3_leaves 206 = .ok (.iconst 5, 1) := by decide +kernel
theorem dX3_leaves_207 : decode cX3_leaves 207 = .ok (.iaload, 1) := by decide +kernel
theorem dX3_leaves_208 : decode cX3_leaves 208 = .ok (.iload_n 1, 1) := by decide +kernel
theorem dX3_leaves_209 : decode cX3_leaves 209 = .ok (.if_icmp .ne 7, 3) := by decide +kernel
theorem dX3_leaves_212 : decode cX3_leaves 212 = .ok (.iconst (-1), 1) := by decide +kernel
theorem dX3_leaves_213 : decode cX3_leaves 213 = .ok (.goto 30, 3) := by decide +kernel
theorem dX3_leaves_216 : decode cX3_leaves 216 = .ok (.aload_n 0, 1) := by decide +kernel
theorem dX3_leaves_217 : decode cX3_leaves 217 = .ok (.getfield 7, 3) := by decide +kernel
theorem dX3_leaves_220 : decode cX3_leaves 220 = .ok (.iconst 5, 1) := by decide +kernel
theorem dX3_leaves_221 : decode cX3_leaves 221 = .ok (.iaload, 1) := by decide +kernel
theorem dX3_leaves_222 : decode cX3_leaves 222 = .ok (.iload_n 1, 1) := by decide +kernel
theorem dX3_leaves_223 : decode cX3_leaves 223 = .ok (.if_icmp .le 14, 3) := by decide +kernel
theorem dX3_leaves_226 : decode cX3_leaves 226 = .ok (.aload_n 0, 1) := by decide +kernel
theorem dX3_leaves_227 : decode cX3_leaves 227 = .ok (.getfield 7, 3) := by decide +kernel
theorem dX3_leaves_230 : decode cX3_leaves 230 = .ok (.iconst 5, 1) := by decide +kernel
theorem dX3_leaves_231 : decode cX3_leaves 231 = .ok (.iaload, 1) := by decide +kernel
theorem dX3_leaves_232 : decode cX3_leaves 232 = .ok (.iconst 1, 1) := by decide +kernel
theorem dX3_leaves_233 : decode cX3_leaves 233 = .ok (.isub, 1) := by decide +kernel
theorem dX3_leaves_234 : decode cX3_leaves 234 = .ok (.goto 9, 3) := by decide +kernel
theorem dX3_leaves_237 : decode cX3_leaves 237 = .ok (.aload_n 0, 1) := by decide +kernel
theorem dX3_leaves_238 : decode cX3_leaves 238 = .ok (.getfield 7, 3) := by decide +kernel
theorem dX3_leaves_241 : decode cX3_leaves 241 = .ok (.iconst 5, 1) := by decide +kernel
theorem dX3_leaves_242 : decode cX3_leaves 242 = .ok (.iaload, 1) := by decide +kernel
theorem dX3_leaves_243 : decode cX3_leaves 243 = .ok (.iastore, 1) := by decide +kernel
theorem dX3_leaves_244 : decode cX3_leaves 244 = .ok (.return_, 1) := by decide +kernel
theorem dX3_loses_0 : decode cX3_loses 0 = .ok (.aload_n 0, 1) := by decide +kernel
theorem dX3_loses_1 : decode cX3_loses 1 = .ok (.getfield 7, 3) := by decide +kernel
theorem dX3_loses_4 : decode cX3_loses 4 = .ok (.bipush 27, 2) := by decide +kernel
theorem dX3_loses_6 : decode cX3_loses 6 = .ok (.iload_n 1, 1) := by decide +kernel
theorem dX3_loses_7 : decode cX3_loses 7 = .ok (.iadd, 1) := by decide +kernel
theorem dX3_loses_8 : decode cX3_loses 8 = .ok (.iaload, 1) := by decide +kernel
theorem dX3_loses_9 : decode cX3_loses 9 = .ok (.istore_n 2, 1) := by decide +kernel
theorem dX3_loses_10 : decode cX3_loses 10 = .ok (.aload_n 0, 1) := by decide +kernel
theorem dX3_loses_11 : decode cX3_loses 11 = .ok (.getfield 7, 3) := by decide +kernel
theorem dX3_loses_14 : decode cX3_loses 14 = .ok (.bipush 6, 2) := by decide +kernel
theorem dX3_loses_16 : decode cX3_loses 16 = .ok (.dup2, 1) := by decide +kernel
theorem dX3_loses_17 : decode cX3_loses 17 = .ok (.iaload, 1) := by decide +kernel
theorem dX3_loses_18 : decode cX3_loses 18 = .ok (.aload_n 0, 1) := by decide +kernel
theorem dX3_loses_19 : decode cX3_loses 19 = .ok (.getfield 7, 3) := by decide +kernel
theorem dX3_loses_22 : decode cX3_loses 22 = .ok (.iconst 5, 1) := by decide +kernel
theorem dX3_loses_23 : decode cX3_loses 23 = .ok (.iaload, 1) := by decide +kernel
theorem dX3_loses_24 : decode cX3_loses 24 = .ok (.iload_n 2, 1) := by decide +kernel
theorem dX3_loses_25 : decode cX3_loses 25 = .ok (.if_icmp .ne 22, 3) := by decide +kernel
theorem dX3_loses_28 : decode cX3_loses 28 = .ok (.aload_n 0, 1) := by decide +kernel
theorem dX3_loses_29 : decode cX3_loses 29 = .ok (.iload_n 1, 1) := by decide +kernel
theorem dX3_loses_30 : decode cX3_loses 30 = .ok (.invokevirtual 24, 3) := by decide +kernel
theorem dX3_loses_33 : decode cX3_loses 33 = .ok (.aload_n 0, 1) := by decide +kernel
theorem dX3_loses_34 : decode cX3_loses 34 = .ok (.getfield 7, 3) := by decide +kernel
theorem dX3_loses_37 : decode cX3_loses 37 = .ok (.bipush 6, 2) := by decide +kernel
theorem dX3_loses_39 : decode cX3_loses 39 = .ok (.iaload, 1) := by decide +kernel
theorem dX3_loses_40 : decode cX3_loses 40 = .ok (.if_icmp .ge 7, 3) := by decide +kernel
theorem dX3_loses_43 : decode cX3_loses 43 = .ok (.iconst 1, 1) := by decide +kernel
theorem dX3_loses_44 : decode cX3_loses 44 = .ok (.goto 4, 3) := by decide +kernel
theorem dX3_loses_47 : decode cX3_loses 47 = .ok (.iconst 0, 1) := by decide +kernel
theorem dX3_loses_48 : decode cX3_loses 48 = .ok (.isub, 1) := by decide +kernel
theorem dX3_loses_49 : decode cX3_loses 49 = .ok (.iastore, 1) := by decide +kernel
theorem dX3_loses_50 : decode cX3_loses 50 = .ok (.aload_n 0, 1) := by decide +kernel
theorem dX3_loses_51 : decode cX3_loses 51 = .ok (.getfield 7, 3) := by decide +kernel
theorem dX3_loses_54 : decode cX3_loses 54 = .ok (.bipush 27, 2) := by decide +kernel
theorem dX3_loses_56 : decode cX3_loses 56 = .ok (.iload_n 1, 1) := by decide +kernel
theorem dX3_loses_57 : decode cX3_loses 57 = .ok (.iadd, 1) := by decide +kernel
theorem dX3_loses_58 : decode cX3_loses 58 = .ok (.iconst (-1), 1) := by decide +kernel
theorem dX3_loses_59 : decode cX3_loses 59 = .ok (.iastore, 1) := by decide +kernel
theorem dX3_loses_60 : decode cX3_loses 60 = .ok (.aload_n 0, 1) := by decide +kernel
theorem dX3_loses_61 : decode cX3_loses 61 = .ok (.getfield 7, 3) := by decide +kernel
theorem dX3_loses_64 : decode cX3_loses 64 = .ok (.bipush 17, 2) := by decide +kernel
theorem dX3_loses_66 : decode cX3_loses 66 = .ok (.iload_n 2, 1) := by decide +kernel
theorem dX3_loses_67 : decode cX3_loses 67 = .ok (.iadd, 1) := by decide +kernel
theorem dX3_loses_68 : decode cX3_loses 68 = .ok (.dup2, 1) := by decide +kernel
theorem dX3_loses_69 : decode cX3_loses 69 = .ok (.iaload, 1) := by decide +kernel
theorem dX3_loses_70 : decode cX3_loses 70 = .ok (.iconst 1, 1) := by decide +kernel
theorem dX3_loses_71 : decode cX3_loses 71 = .ok (.iadd, 1) := by decide +kernel
theorem dX3_loses_72 : decode cX3_loses 72 = .ok (.iastore, 1) := by decide +kernel
theorem dX3_loses_73 : decode cX3_loses 73 = .ok (.aload_n 0, 1) := by decide +kernel
theorem dX3_loses_74 : decode cX3_loses 74 = .ok (.iload_n 2, 1) := by decide +kernel
theorem dX3_loses_75 : decode cX3_loses 75 = .ok (.invokevirtual 32, 3) := by decide +kernel
theorem dX3_loses_78 : decode cX3_loses 78 = .ok (.ifCond .ne 18, 3) := by decide +kernel
theorem dX3_loses_81 : decode cX3_loses 81 = .ok (.aload_n 0, 1) := by decide +kernel
theorem dX3_loses_82 : decode cX3_loses 82 = .ok (.iload_n 2, 1) := by decide +kernel
theorem dX3_loses_83 : decode cX3_loses 83 = .ok (.invokevirtual 35, 3) := by decide +kernel
theorem dX3_loses_86 : decode cX3_loses 86 = .ok (.aload_n 0, 1) := by decide +kernel
theorem dX3_loses_87 : decode cX3_loses 87 = .ok (.getfield 7, 3) := by decide +kernel
theorem dX3_loses_90 : decode cX3_loses 90 = .ok (.iconst 4, 1) := by decide +kernel
theorem dX3_loses_91 : decode cX3_loses 91 = .ok (.dup2, 1) := by decide +kernel
theorem dX3_loses_92 : decode cX3_loses 92 = .ok (.iaload, 1) := by decide +kernel
theorem dX3_loses_93 : decode cX3_loses 93 = .ok (.iconst 1, 1) := by decide +kernel
theorem dX3_loses_94 : decode cX3_loses 94 = .ok (.iadd, 1) := by decide +kernel
theorem dX3_loses_95 : decode cX3_loses 95 = .ok (.iastore, 1) := by decide +kernel
theorem dX3_loses_96 : decode cX3_loses 96 = .ok (.return_, 1) := by decide +kernel
theorem dX3_speaks_0 : decode cX3_speaks 0 = .ok (.aload_n 0, 1) := by decide +kernel
theorem dX3_speaks_1 : decode cX3_speaks 1 = .ok (.getfield 7, 3) := by decide +kernel
theorem dX3_speaks_4 : decode cX3_speaks 4 = .ok (.iconst 2, 1) := by decide +kernel
theorem dX3_speaks_5 : decode cX3_speaks 5 = .ok (.iaload, 1) := by decide +kernel
theorem dX3_speaks_6 : decode cX3_speaks 6 = .ok (.istore_n 2, 1) := by decide +kernel
theorem dX3_speaks_7 : decode cX3_speaks 7 = .ok (.aload_n 0, 1) := by decide +kernel
theorem dX3_speaks_8 : decode cX3_speaks 8 = .ok (.iload_n 2, 1) := by decide +kernel
theorem dX3_speaks_9 : decode cX3_speaks 9 = .ok (.invokevirtual 28, 3) := by decide +kernel
theorem dX3_speaks_12 : decode cX3_speaks 12 = .ok (.ifCond .ne 13, 3) := by decide +kernel
theorem dX3_speaks_15 : decode cX3_speaks 15 = .ok (.iload_n 2, 1) := by decide +kernel
theorem dX3_speaks_16 : decode cX3_speaks 16 = .ok (.iconst 1, 1) := by decide +kernel
theorem dX3_speaks_17 : decode cX3_speaks 17 = .ok (.iadd, 1) := by decide +kernel
theorem dX3_speaks_18 : decode cX3_speaks 18 = .ok (.bipush 32, 2) := by decide +kernel
theorem dX3_speaks_20 : decode cX3_speaks 20 = .ok (.irem, 1) := by decide +kernel
theorem dX3_speaks_21 : decode cX3_speaks 21 = .ok (.istore_n 2, 1) := by decide +kernel
theorem dX3_speaks_22 : decode cX3_speaks 22 = .ok (.goto (-15), 3) := by decide +kernel
theorem dX3_speaks_25 : decode cX3_speaks 25 = .ok (.aload_n 0, 1) := by decide +kernel
theorem dX3_speaks_26 : decode cX3_speaks 26 = .ok (.getfield 7, 3) := by decide +kernel
theorem dX3_speaks_29 : decode cX3_speaks 29 = .ok (.bipush 27, 2) := by decide +kernel
theorem dX3_speaks_31 : decode cX3_speaks 31 = .ok (.iload_n 2, 1) := by decide +kernel
theorem dX3_speaks_32 : decode cX3_speaks 32 = .ok (.iadd, 1) := by decide +kernel
theorem dX3_speaks_33 : decode cX3_speaks 33 = .ok (.iaload, 1) := by decide +kernel
theorem dX3_speaks_34 : decode cX3_speaks 34 = .ok (.iconst (-1), 1) := by decide +kernel
theorem dX3_speaks_35 : decode cX3_speaks 35 = .ok (.if_icmp .eq 8, 3) := by decide +kernel
theorem dX3_speaks_38 : decode cX3_speaks 38 = .ok (.aload_n 0, 1) := by decide +kernel
theorem dX3_speaks_39 : decode cX3_speaks 39 = .ok (.iload_n 2, 1) := by decide +kernel
theorem dX3_speaks_40 : decode cX3_speaks 40 = .ok (.invokevirtual 39, 3) := by decide +kernel
theorem dX3_speaks_43 : decode cX3_speaks 43 = .ok (.aload_n 0, 1) := by decide +kernel
theorem dX3_speaks_44 : decode cX3_speaks 44 = .ok (.getfield 7, 3) := by decide +kernel
theorem dX3_speaks_47 : decode cX3_speaks 47 = .ok (.bipush 27, 2) := by decide +kernel
theorem dX3_speaks_49 : decode cX3_speaks 49 = .ok (.iload_n 2, 1) := by decide +kernel
theorem dX3_speaks_50 : decode cX3_speaks 50 = .ok (.iadd, 1) := by decide +kernel
theorem dX3_speaks_51 : decode cX3_speaks 51 = .ok (.aload_n 0, 1) := by decide +kernel
theorem dX3_speaks_52 : decode cX3_speaks 52 = .ok (.getfield 7, 3) := by decide +kernel
theorem dX3_speaks_55 : decode cX3_speaks 55 = .ok (.iconst 1, 1) := by decide +kernel
theorem dX3_speaks_56 : decode cX3_speaks 56 = .ok (.iaload, 1) := by decide +kernel
theorem dX3_speaks_57 : decode cX3_speaks 57 = .ok (.iastore, 1) := by decide +kernel
theorem dX3_speaks_58 : decode cX3_speaks 58 = .ok (.aload_n 0, 1) := by decide +kernel
theorem dX3_speaks_59 : decode cX3_speaks 59 = .ok (.getfield 7, 3) := by decide +kernel
theorem dX3_speaks_62 : decode cX3_speaks 62 = .ok (.bipush 59, 2) := by decide +kernel
theorem dX3_speaks_64 : decode cX3_speaks 64 = .ok (.iload_n 2, 1) := by decide +kernel
theorem dX3_speaks_65 : decode cX3_speaks 65 = .ok (.iadd, 1) := by decide +kernel
theorem dX3_speaks_66 : decode cX3_speaks 66 = .ok (.iload_n 1, 1) := by decide +kernel
theorem dX3_speaks_67 : decode cX3_speaks 67 = .ok (.iastore, 1) := by decide +kernel
theorem dX3_speaks_68 : decode cX3_speaks 68 = .ok (.aload_n 0, 1) := by decide +kernel
theorem dX3_speaks_69 : decode cX3_speaks 69 = .ok (.getfield 7, 3) := by decide +kernel
theorem dX3_speaks_72 : decode cX3_speaks 72 = .ok (.bipush 91, 2) := by decide +kernel
theorem dX3_speaks_74 : decode cX3_speaks 74 = .ok (.iload_n 2, 1) := by decide +kernel
theorem dX3_speaks_75 : decode cX3_speaks 75 = .ok (.iadd, 1) := by decide +kernel
theorem dX3_speaks_76 : decode cX3_speaks 76 = .ok (.iload_n 1, 1) := by decide +kernel
theorem dX3_speaks_77 : decode cX3_speaks 77 = .ok (.iastore, 1) := by decide +kernel
theorem dX3_speaks_78 : decode cX3_speaks 78 = .ok (.aload_n 0, 1) := by decide +kernel
theorem dX3_speaks_79 : decode cX3_speaks 79 = .ok (.getfield 7, 3) := by decide +kernel
theorem dX3_speaks_82 : decode cX3_speaks 82 = .ok (.bipush 123, 2) := by decide +kernel
theorem dX3_speaks_84 : decode cX3_speaks 84 = .ok (.iload_n 2, 1) := by decide +kernel
theorem dX3_speaks_85 : decode cX3_speaks 85 = .ok (.iadd, 1) := by decide +kernel
theorem dX3_speaks_86 : decode cX3_speaks 86 = .ok (.aload_n 0, 1) := by decide +kernel
theorem dX3_speaks_87 : decode cX3_speaks 87 = .ok (.getfield 7, 3) := by decide +kernel
theorem dX3_speaks_90 : decode cX3_speaks 90 = .ok (.iconst 3, 1) := by decide +kernel
theorem dX3_speaks_91 : decode cX3_speaks 91 = .ok (.iaload, 1) := by decide +kernel
theorem dX3_speaks_92 : decode cX3_speaks 92 = .ok (.iastore, 1) := by decide +kernel
theorem dX3_speaks_93 : decode cX3_speaks 93 = .ok (.aload_n 0, 1) := by decide +kernel
theorem dX3_speaks_94 : decode cX3_speaks 94 = .ok (.getfield 7, 3) := by decide +kernel
theorem dX3_speaks_97 : decode cX3_speaks 97 = .ok (.iconst 3, 1) := by decide +kernel
theorem dX3_speaks_98 : decode cX3_speaks 98 = .ok (.dup2, 1) := by decide +kernel
theorem dX3_speaks_99 : decode cX3_speaks 99 = .ok (.iaload, 1) := by decide +kernel
theorem dX3_speaks_100 : decode cX3_speaks 100 = .ok (.iconst 1, 1) := by decide +kernel
theorem dX3_speaks_101 : decode cX3_speaks 101 = .ok (.iadd, 1) := by decide +kernel
theorem dX3_speaks_102 : decode cX3_speaks 102 = .ok (.iastore, 1) := by decide +kernel
theorem dX3_speaks_103 : decode cX3_speaks 103 = .ok (.aload_n 0, 1) := by decide +kernel
theorem dX3_speaks_104 : decode cX3_speaks 104 = .ok (.getfield 7, 3) := by decide +kernel
theorem dX3_speaks_107 : decode cX3_speaks 107 = .ok (.iconst 2, 1) := by decide +kernel
theorem dX3_speaks_108 : decode cX3_speaks 108 = .ok (.iload_n 2, 1) := by decide +kernel
theorem dX3_speaks_109 : decode cX3_speaks 109 = .ok (.iconst 1, 1) := by decide +kernel
theorem dX3_speaks_110 : decode cX3_speaks 110 = .ok (.iadd, 1) := by decide +kernel
theorem dX3_speaks_111 : decode cX3_speaks 111 = .ok (.bipush 32, 2) := by decide +kernel
theorem dX3_speaks_113 : decode cX3_speaks 113 = .ok (.irem, 1) := by decide +kernel
theorem dX3_speaks_114 : decode cX3_speaks 114 = .ok (.iastore, 1) := by decide +kernel
theorem dX3_speaks_115 : decode cX3_speaks 115 = .ok (.iload_n 2, 1) := by decide +kernel
theorem dX3_speaks_116 : decode cX3_speaks 116 = .ok (.ireturn, 1) := by decide +kernel
theorem dX3_halts_0 : decode cX3_halts 0 = .ok (.aload_n 0, 1) := by decide +kernel
theorem dX3_halts_1 : decode cX3_halts 1 = .ok (.getfield 7, 3) := by decide +kernel
theorem dX3_halts_4 : decode cX3_halts 4 = .ok (.iconst 1, 1) := by decide +kernel
theorem dX3_halts_5 : decode cX3_halts 5 = .ok (.iaload, 1) := by decide +kernel
theorem dX3_halts_6 : decode cX3_halts 6 = .ok (.istore_n 1, 1) := by decide +kernel
theorem dX3_halts_7 : decode cX3_halts 7 = .ok (.aload_n 0, 1) := by decide +kernel
theorem dX3_halts_8 : decode cX3_halts 8 = .ok (.iload_n 1, 1) := by decide +kernel
theorem dX3_halts_9 : decode cX3_halts 9 = .ok (.invokevirtual 32, 3) := by decide +kernel
theorem dX3_halts_12 : decode cX3_halts 12 = .ok (.istore_n 2, 1) := by decide +kernel
theorem dX3_halts_13 : decode cX3_halts 13 = .ok (.iload_n 2, 1) := by decide +kernel
theorem dX3_halts_14 : decode cX3_halts 14 = .ok (.ifCond .ne 8, 3) := by decide +kernel
theorem dX3_halts_17 : decode cX3_halts 17 = .ok (.aload_n 0, 1) := by decide +kernel
theorem dX3_halts_18 : decode cX3_halts 18 = .ok (.iload_n 1, 1) := by decide +kernel
theorem dX3_halts_19 : decode cX3_halts 19 = .ok (.invokevirtual 35, 3) := by decide +kernel
theorem dX3_halts_22 : decode cX3_halts 22 = .ok (.aload_n 0, 1) := by decide +kernel
theorem dX3_halts_23 : decode cX3_halts 23 = .ok (.getfield 7, 3) := by decide +kernel
theorem dX3_halts_26 : decode cX3_halts 26 = .ok (.iconst 1, 1) := by decide +kernel
theorem dX3_halts_27 : decode cX3_halts 27 = .ok (.iconst (-1), 1) := by decide +kernel
theorem dX3_halts_28 : decode cX3_halts 28 = .ok (.iastore, 1) := by decide +kernel
theorem dX3_halts_29 : decode cX3_halts 29 = .ok (.iload_n 2, 1) := by decide +kernel
theorem dX3_halts_30 : decode cX3_halts 30 = .ok (.ireturn, 1) := by decide +kernel
theorem dX3_begins_0 : decode cX3_begins 0 = .ok (.aload_n 0, 1) := by decide +kernel
theorem dX3_begins_1 : decode cX3_begins 1 = .ok (.getfield 7, 3) := by decide +kernel
theorem dX3_begins_4 : decode cX3_begins 4 = .ok (.iconst 1, 1) := by decide +kernel
theorem dX3_begins_5 : decode cX3_begins 5 = .ok (.iaload, 1) := by decide +kernel
theorem dX3_begins_6 : decode cX3_begins 6 = .ok (.iconst (-1), 1) := by decide +kernel
theorem dX3_begins_7 : decode cX3_begins 7 = .ok (.if_icmp .eq 8, 3) := by decide +kernel
theorem dX3_begins_10 : decode cX3_begins 10 = .ok (.aload_n 0, 1) := by decide +kernel
theorem dX3_begins_11 : decode cX3_begins 11 = .ok (.invokevirtual 42, 3) := by decide +kernel
theorem dX3_begins_14 : decode cX3_begins 14 = .ok (.pop, 1) := by decide +kernel
theorem dX3_begins_15 : decode cX3_begins 15 = .ok (.aload_n 0, 1) := by decide +kernel
theorem dX3_begins_16 : decode cX3_begins 16 = .ok (.getfield 7, 3) := by decide +kernel
theorem dX3_begins_19 : decode cX3_begins 19 = .ok (.bipush 7, 2) := by decide +kernel
theorem dX3_begins_21 : decode cX3_begins 21 = .ok (.aload_n 0, 1) := by decide +kernel
theorem dX3_begins_22 : decode cX3_begins 22 = .ok (.getfield 7, 3) := by decide +kernel
theorem dX3_begins_25 : decode cX3_begins 25 = .ok (.iconst 0, 1) := by decide +kernel
theorem dX3_begins_26 : decode cX3_begins 26 = .ok (.iaload, 1) := by decide +kernel
theorem dX3_begins_27 : decode cX3_begins 27 = .ok (.iadd, 1) := by decide +kernel
theorem dX3_begins_28 : decode cX3_begins 28 = .ok (.iconst 0, 1) := by decide +kernel
theorem dX3_begins_29 : decode cX3_begins 29 = .ok (.iastore, 1) := by decide +kernel
theorem dX3_begins_30 : decode cX3_begins 30 = .ok (.aload_n 0, 1) := by decide +kernel
theorem dX3_begins_31 : decode cX3_begins 31 = .ok (.getfield 7, 3) := by decide +kernel
theorem dX3_begins_34 : decode cX3_begins 34 = .ok (.bipush 17, 2) := by decide +kernel
theorem dX3_begins_36 : decode cX3_begins 36 = .ok (.aload_n 0, 1) := by decide +kernel
theorem dX3_begins_37 : decode cX3_begins 37 = .ok (.getfield 7, 3) := by decide +kernel
theorem dX3_begins_40 : decode cX3_begins 40 = .ok (.iconst 0, 1) := by decide +kernel
theorem dX3_begins_41 : decode cX3_begins 41 = .ok (.iaload, 1) := by decide +kernel
theorem dX3_begins_42 : decode cX3_begins 42 = .ok (.iadd, 1) := by decide +kernel
theorem dX3_begins_43 : decode cX3_begins 43 = .ok (.iconst 0, 1) := by decide +kernel
theorem dX3_begins_44 : decode cX3_begins 44 = .ok (.iastore, 1) := by decide +kernel
theorem dX3_begins_45 : decode cX3_begins 45 = .ok (.aload_n 0, 1) := by decide +kernel
theorem dX3_begins_46 : decode cX3_begins 46 = .ok (.getfield 7, 3) := by decide +kernel
theorem dX3_begins_49 : decode cX3_begins 49 = .ok (.iconst 1, 1) := by decide +kernel
theorem dX3_begins_50 : decode cX3_begins 50 = .ok (.aload_n 0, 1) := by decide +kernel
theorem dX3_begins_51 : decode cX3_begins 51 = .ok (.getfield 7, 3) := by decide +kernel
theorem dX3_begins_54 : decode cX3_begins 54 = .ok (.iconst 0, 1) := by decide +kernel
theorem dX3_begins_55 : decode cX3_begins 55 = .ok (.iaload, 1) := by decide +kernel
theorem dX3_begins_56 : decode cX3_begins 56 = .ok (.iastore, 1) := by decide +kernel
theorem dX3_begins_57 : decode cX3_begins 57 = .ok (.aload_n 0, 1) := by decide +kernel
theorem dX3_begins_58 : decode cX3_begins 58 = .ok (.getfield 7, 3) := by decide +kernel
theorem dX3_begins_61 : decode cX3_begins 61 = .ok (.iconst 0, 1) := by decide +kernel
theorem dX3_begins_62 : decode cX3_begins 62 = .ok (.dup2, 1) := by decide +kernel
theorem dX3_begins_63 : decode cX3_begins 63 = .ok (.iaload, 1) := by decide +kernel
theorem dX3_begins_64 : decode cX3_begins 64 = .ok (.iconst 1, 1) := by decide +kernel
theorem dX3_begins_65 : decode cX3_begins 65 = .ok (.iadd, 1) := by decide +kernel
theorem dX3_begins_66 : decode cX3_begins 66 = .ok (.iastore, 1) := by decide +kernel
theorem dX3_begins_67 : decode cX3_begins 67 = .ok (.aload_n 0, 1) := by decide +kernel
theorem dX3_begins_68 : decode cX3_begins 68 = .ok (.getfield 7, 3) := by decide +kernel
theorem dX3_begins_71 : decode cX3_begins 71 = .ok (.iconst 1, 1) := by decide +kernel
theorem dX3_begins_72 : decode cX3_begins 72 = .ok (.iaload, 1) := by decide +kernel
theorem dX3_begins_73 : decode cX3_begins 73 = .ok (.ireturn, 1) := by decide +kernel
theorem dX3_canBegin_0 : decode cX3_canBegin 0 = .ok (.aload_n 0, 1) := by decide +kernel
theorem dX3_canBegin_1 : decode cX3_canBegin 1 = .ok (.getfield 7, 3) := by decide +kernel
theorem dX3_canBegin_4 : decode cX3_canBegin 4 = .ok (.iconst 0, 1) := by decide +kernel
theorem dX3_canBegin_5 : decode cX3_canBegin 5 = .ok (.iaload, 1) := by decide +kernel
theorem dX3_canBegin_6 : decode cX3_canBegin 6 = .ok (.bipush 10, 2) := by decide +kernel
theorem dX3_canBegin_8 : decode cX3_canBegin 8 = .ok (.if_icmp .lt 26, 3) := by decide +kernel
theorem dX3_canBegin_11 : decode cX3_canBegin 11 = .ok (.aload_n 0, 1) := by decide +kernel
theorem dX3_canBegin_12 : decode cX3_canBegin 12 = .ok (.getfield 7, 3) := by decide +kernel
theorem dX3_canBegin_15 : decode cX3_canBegin 15 = .ok (.iconst 1, 1) := by decide +kernel
theorem dX3_canBegin_16 : decode cX3_canBegin 16 = .ok (.iaload, 1) := by decide +kernel
theorem dX3_canBegin_17 : decode cX3_canBegin 17 = .ok (.iconst (-1), 1) := by decide +kernel
theorem dX3_canBegin_18 : decode cX3_canBegin 18 = .ok (.if_icmp .eq 20, 3) := by decide +kernel
theorem dX3_canBegin_21 : decode cX3_canBegin 21 = .ok (.aload_n 0, 1) := by decide +kernel
theorem dX3_canBegin_22 : decode cX3_canBegin 22 = .ok (.aload_n 0, 1) := by decide +kernel
theorem dX3_canBegin_23 : decode cX3_canBegin 23 = .ok (.getfield 7, 3) := by decide +kernel
theorem dX3_canBegin_26 : decode cX3_canBegin 26 = .ok (.iconst 1, 1) := by decide +kernel
theorem dX3_canBegin_27 : decode cX3_canBegin 27 = .ok (.iaload, 1) := by decide +kernel
theorem dX3_canBegin_28 : decode cX3_canBegin 28 = .ok (.invokevirtual 32, 3) := by decide +kernel
theorem dX3_canBegin_31 : decode cX3_canBegin 31 = .ok (.ifCond .ne 7, 3) := by decide +kernel
theorem dX3_canBegin_34 : decode cX3_canBegin 34 = .ok (.iconst 1, 1) := by decide +kernel
theorem dX3_canBegin_35 : decode cX3_canBegin 35 = .ok (.goto 4, 3) := by decide +kernel
theorem dX3_canBegin_38 : decode cX3_canBegin 38 = .ok (.iconst 0, 1) := by decide +kernel
theorem dX3_canBegin_39 : decode cX3_canBegin 39 = .ok (.ireturn, 1) := by decide +kernel
theorem dX3_canSpeak_0 : decode cX3_canSpeak 0 = .ok (.aload_n 0, 1) := by decide +kernel
theorem dX3_canSpeak_1 : decode cX3_canSpeak 1 = .ok (.getfield 7, 3) := by decide +kernel
theorem dX3_canSpeak_4 : decode cX3_canSpeak 4 = .ok (.iconst 1, 1) := by decide +kernel
theorem dX3_canSpeak_5 : decode cX3_canSpeak 5 = .ok (.iaload, 1) := by decide +kernel
theorem dX3_canSpeak_6 : decode cX3_canSpeak 6 = .ok (.iconst (-1), 1) := by decide +kernel
theorem dX3_canSpeak_7 : decode cX3_canSpeak 7 = .ok (.if_icmp .eq 15, 3) := by decide +kernel
theorem dX3_canSpeak_10 : decode cX3_canSpeak 10 = .ok (.aload_n 0, 1) := by decide +kernel
theorem dX3_canSpeak_11 : decode cX3_canSpeak 11 = .ok (.invokevirtual 46, 3) := by decide +kernel
theorem dX3_canSpeak_14 : decode cX3_canSpeak 14 = .ok (.iload_n 1, 1) := by decide +kernel
theorem dX3_canSpeak_15 : decode cX3_canSpeak 15 = .ok (.if_icmp .lt 7, 3) := by decide +kernel
theorem dX3_canSpeak_18 : decode cX3_canSpeak 18 = .ok (.iconst 1, 1) := by decide +kernel
theorem dX3_canSpeak_19 : decode cX3_canSpeak 19 = .ok (.goto 4, 3) := by decide +kernel
theorem dX3_canSpeak_22 : decode cX3_canSpeak 22 = .ok (.iconst 0, 1) := by decide +kernel
theorem dX3_canSpeak_23 : decode cX3_canSpeak 23 = .ok (.ireturn, 1) := by decide +kernel
theorem dX3_goes_0 : decode cX3_goes 0 = .ok (.aload_n 0, 1) := by decide +kernel
theorem dX3_goes_1 : decode cX3_goes 1 = .ok (.getfield 7, 3) := by decide +kernel
theorem dX3_goes_4 : decode cX3_goes 4 = .ok (.iconst 5, 1) := by decide +kernel
theorem dX3_goes_5 : decode cX3_goes 5 = .ok (.iload_n 1, 1) := by decide +kernel
theorem dX3_goes_6 : decode cX3_goes 6 = .ok (.iastore, 1) := by decide +kernel
theorem dX3_goes_7 : decode cX3_goes 7 = .ok (.aload_n 0, 1) := by decide +kernel
theorem dX3_goes_8 : decode cX3_goes 8 = .ok (.getfield 7, 3) := by decide +kernel
theorem dX3_goes_11 : decode cX3_goes 11 = .ok (.bipush 6, 2) := by decide +kernel
theorem dX3_goes_13 : decode cX3_goes 13 = .ok (.iconst 0, 1) := by decide +kernel
theorem dX3_goes_14 : decode cX3_goes 14 = .ok (.iastore, 1) := by decide +kernel
theorem dX3_goes_15 : decode cX3_goes 15 = .ok (.aload_n 0, 1) := by decide +kernel
theorem dX3_goes_16 : decode cX3_goes 16 = .ok (.iload_n 1, 1) := by decide +kernel
theorem dX3_goes_17 : decode cX3_goes 17 = .ok (.invokevirtual 32, 3) := by decide +kernel
theorem dX3_goes_20 : decode cX3_goes 20 = .ok (.ireturn, 1) := by decide +kernel
theorem dX3_plays_0 : decode cX3_plays 0 = .ok (.aload_n 0, 1) := by decide +kernel
theorem dX3_plays_1 : decode cX3_plays 1 = .ok (.aload_n 0, 1) := by decide +kernel
theorem dX3_plays_2 : decode cX3_plays 2 = .ok (.getfield 7, 3) := by decide +kernel
theorem dX3_plays_5 : decode cX3_plays 5 = .ok (.iconst 5, 1) := by decide +kernel
theorem dX3_plays_6 : decode cX3_plays 6 = .ok (.iaload, 1) := by decide +kernel
theorem dX3_plays_7 : decode cX3_plays 7 = .ok (.aload_n 0, 1) := by decide +kernel
theorem dX3_plays_8 : decode cX3_plays 8 = .ok (.getfield 7, 3) := by decide +kernel
theorem dX3_plays_11 : decode cX3_plays 11 = .ok (.bipush 6, 2) := by decide +kernel
theorem dX3_plays_13 : decode cX3_plays 13 = .ok (.iaload, 1) := by decide +kernel
theorem dX3_plays_14 : decode cX3_plays 14 = .ok (.invokevirtual 49, 3) := by decide +kernel
theorem dX3_plays_17 : decode cX3_plays 17 = .ok (.istore_n 1, 1) := by decide +kernel
theorem dX3_plays_18 : decode cX3_plays 18 = .ok (.aload_n 0, 1) := by decide +kernel
theorem dX3_plays_19 : decode cX3_plays 19 = .ok (.getfield 7, 3) := by decide +kernel
theorem dX3_plays_22 : decode cX3_plays 22 = .ok (.bipush 6, 2) := by decide +kernel
theorem dX3_plays_24 : decode cX3_plays 24 = .ok (.dup2, 1) := by decide +kernel
theorem dX3_plays_25 : decode cX3_plays 25 = .ok (.iaload, 1) := by decide +kernel
theorem dX3_plays_26 : decode cX3_plays 26 = .ok (.iload_n 1, 1) := by decide +kernel
theorem dX3_plays_27 : decode cX3_plays 27 = .ok (.iconst (-1), 1) := by decide +kernel
theorem dX3_plays_28 : decode cX3_plays 28 = .ok (.if_icmp .ne 7, 3) := by decide +kernel
theorem dX3_plays_31 : decode cX3_plays 31 = .ok (.iconst 0, 1) := by decide +kernel
theorem dX3_plays_32 : decode cX3_plays 32 = .ok (.goto 4, 3) := by decide +kernel
theorem dX3_plays_35 : decode cX3_plays 35 = .ok (.iconst 1, 1) := by decide +kernel
theorem dX3_plays_36 : decode cX3_plays 36 = .ok (.iadd, 1) := by decide +kernel
theorem dX3_plays_37 : decode cX3_plays 37 = .ok (.iastore, 1) := by decide +kernel
theorem dX3_plays_38 : decode cX3_plays 38 = .ok (.iload_n 1, 1) := by decide +kernel
theorem dX3_plays_39 : decode cX3_plays 39 = .ok (.iconst (-1), 1) := by decide +kernel
theorem dX3_plays_40 : decode cX3_plays 40 = .ok (.if_icmp .ne 7, 3) := by decide +kernel
theorem dX3_plays_43 : decode cX3_plays 43 = .ok (.iconst (-1), 1) := by decide +kernel
theorem dX3_plays_44 : decode cX3_plays 44 = .ok (.goto 12, 3) := by decide +kernel
theorem dX3_plays_47 : decode cX3_plays 47 = .ok (.aload_n 0, 1) := by decide +kernel
theorem dX3_plays_48 : decode cX3_plays 48 = .ok (.getfield 7, 3) := by decide +kernel
theorem dX3_plays_51 : decode cX3_plays 51 = .ok (.bipush 59, 2) := by decide +kernel
theorem dX3_plays_53 : decode cX3_plays 53 = .ok (.iload_n 1, 1) := by decide +kernel
theorem dX3_plays_54 : decode cX3_plays 54 = .ok (.iadd, 1) := by decide +kernel
theorem dX3_plays_55 : decode cX3_plays 55 = .ok (.iaload, 1) := by decide +kernel
theorem dX3_plays_56 : decode cX3_plays 56 = .ok (.ireturn, 1) := by decide +kernel
theorem dX3_goesBack_0 : decode cX3_goesBack 0 = .ok (.aload_n 0, 1) := by decide +kernel
theorem dX3_goesBack_1 : decode cX3_goesBack 1 = .ok (.getfield 7, 3) := by decide +kernel
theorem dX3_goesBack_4 : decode cX3_goesBack 4 = .ok (.bipush 6, 2) := by decide +kernel
theorem dX3_goesBack_6 : decode cX3_goesBack 6 = .ok (.aload_n 0, 1) := by decide +kernel
theorem dX3_goesBack_7 : decode cX3_goesBack 7 = .ok (.getfield 7, 3) := by decide +kernel
theorem dX3_goesBack_10 : decode cX3_goesBack 10 = .ok (.bipush 6, 2) := by decide +kernel
theorem dX3_goesBack_12 : decode cX3_goesBack 12 = .ok (.iaload, 1) := by decide +kernel
theorem dX3_goesBack_13 : decode cX3_goesBack 13 = .ok (.iload_n 1, 1) := by decide +kernel
theorem dX3_goesBack_14 : decode cX3_goesBack 14 = .ok (.if_icmp .ge 7, 3) := by decide +kernel
theorem dX3_goesBack_17 : decode cX3_goesBack 17 = .ok (.iconst 0, 1) := by decide +kernel
theorem dX3_goesBack_18 : decode cX3_goesBack 18 = .ok (.goto 12, 3) := by decide +kernel
theorem dX3_goesBack_21 : decode cX3_goesBack 21 = .ok (.aload_n 0, 1) := by decide +kernel
theorem dX3_goesBack_22 : decode cX3_goesBack 22 = .ok (.getfield 7, 3) := by decide +kernel
theorem dX3_goesBack_25 : decode cX3_goesBack 25 = .ok (.bipush 6, 2) := by decide +kernel
theorem dX3_goesBack_27 : decode cX3_goesBack 27 = .ok (.iaload, 1) := by decide +kernel
theorem dX3_goesBack_28 : decode cX3_goesBack 28 = .ok (.iload_n 1, 1) := by decide +kernel
theorem dX3_goesBack_29 : decode cX3_goesBack 29 = .ok (.isub, 1) := by decide +kernel
theorem dX3_goesBack_30 : decode cX3_goesBack 30 = .ok (.iastore, 1) := by decide +kernel
theorem dX3_goesBack_31 : decode cX3_goesBack 31 = .ok (.aload_n 0, 1) := by decide +kernel
theorem dX3_goesBack_32 : decode cX3_goesBack 32 = .ok (.getfield 7, 3) := by decide +kernel
theorem dX3_goesBack_35 : decode cX3_goesBack 35 = .ok (.bipush 6, 2) := by decide +kernel
theorem dX3_goesBack_37 : decode cX3_goesBack 37 = .ok (.iaload, 1) := by decide +kernel
theorem dX3_goesBack_38 : decode cX3_goesBack 38 = .ok (.ireturn, 1) := by decide +kernel
theorem dX3_copies_0 : decode cX3_copies 0 = .ok (.iconst 0, 1) := by decide +kernel
theorem dX3_copies_1 : decode cX3_copies 1 = .ok (.istore_n 3, 1) := by decide +kernel
theorem dX3_copies_2 : decode cX3_copies 2 = .ok (.iload_n 3, 1) := by decide +kernel
theorem dX3_copies_3 : decode cX3_copies 3 = .ok (.sipush 155, 3) := by decide +kernel
theorem dX3_copies_6 : decode cX3_copies 6 = .ok (.if_icmp .ge 33, 3) := by decide +kernel
theorem dX3_copies_9 : decode cX3_copies 9 = .ok (.aload_n 0, 1) := by decide +kernel
theorem dX3_copies_10 : decode cX3_copies 10 = .ok (.getfield 7, 3) := by decide +kernel
theorem dX3_copies_13 : decode cX3_copies 13 = .ok (.sipush 155, 3) := by decide +kernel
theorem dX3_copies_16 : decode cX3_copies 16 = .ok (.iload_n 2, 1) := by decide +kernel
theorem dX3_copies_17 : decode cX3_copies 17 = .ok (.imul, 1) := by decide +kernel
theorem dX3_copies_18 : decode cX3_copies 18 = .ok (.iload_n 3, 1) := by decide +kernel
theorem dX3_copies_19 : decode cX3_copies 19 = .ok (.iadd, 1) := by decide +kernel
theorem dX3_copies_20 : decode cX3_copies 20 = .ok (.aload_n 0, 1) := by decide +kernel
theorem dX3_copies_21 : decode cX3_copies 21 = .ok (.getfield 7, 3) := by decide +kernel
theorem dX3_copies_24 : decode cX3_copies 24 = .ok (.sipush 155, 3) := by decide +kernel
theorem dX3_copies_27 : decode cX3_copies 27 = .ok (.iload_n 1, 1) := by decide +kernel
theorem dX3_copies_28 : decode cX3_copies 28 = .ok (.imul, 1) := by decide +kernel
theorem dX3_copies_29 : decode cX3_copies 29 = .ok (.iload_n 3, 1) := by decide +kernel
theorem dX3_copies_30 : decode cX3_copies 30 = .ok (.iadd, 1) := by decide +kernel
theorem dX3_copies_31 : decode cX3_copies 31 = .ok (.iaload, 1) := by decide +kernel
theorem dX3_copies_32 : decode cX3_copies 32 = .ok (.iastore, 1) := by decide +kernel
theorem dX3_copies_33 : decode cX3_copies 33 = .ok (.iinc 3 1, 3) := by decide +kernel
theorem dX3_copies_36 : decode cX3_copies 36 = .ok (.goto (-34), 3) := by decide +kernel
theorem dX3_copies_39 : decode cX3_copies 39 = .ok (.return_, 1) := by decide +kernel
theorem dX3_save_0 : decode cX3_save 0 = .ok (.iconst 1, 1) := by decide +kernel
theorem dX3_save_1 : decode cX3_save 1 = .ok (.istore_n 1, 1) := by decide +kernel
theorem dX3_save_2 : decode cX3_save 2 = .ok (.iload_n 1, 1) := by decide +kernel
theorem dX3_save_3 : decode cX3_save 3 = .ok (.bipush 6, 2) := by decide +kernel
theorem dX3_save_5 : decode cX3_save 5 = .ok (.if_icmp .ge 26, 3) := by decide +kernel
theorem dX3_save_8 : decode cX3_save 8 = .ok (.aload_n 0, 1) := by decide +kernel
theorem dX3_save_9 : decode cX3_save 9 = .ok (.getfield 53, 3) := by decide +kernel
theorem dX3_save_12 : decode cX3_save 12 = .ok (.bipush 6, 2) := by decide +kernel
theorem dX3_save_14 : decode cX3_save 14 = .ok (.if_icmp .ne 17, 3) := by decide +kernel
theorem dX3_save_17 : decode cX3_save 17 = .ok (.aload_n 0, 1) := by decide +kernel
theorem dX3_save_18 : decode cX3_save 18 = .ok (.iload_n 1, 1) := by decide +kernel
theorem dX3_save_19 : decode cX3_save 19 = .ok (.iconst 1, 1) := by decide +kernel
theorem dX3_save_20 : decode cX3_save 20 = .ok (.iadd, 1) := by decide +kernel
theorem dX3_save_21 : decode cX3_save 21 = .ok (.iload_n 1, 1) := by decide +kernel
theorem dX3_save_22 : decode cX3_save 22 = .ok (.invokevirtual 56, 3) := by decide +kernel
theorem dX3_save_25 : decode cX3_save 25 = .ok (.iinc 1 1, 3) := by decide +kernel
theorem dX3_save_28 : decode cX3_save 28 = .ok (.goto (-26), 3) := by decide +kernel
theorem dX3_save_31 : decode cX3_save 31 = .ok (.aload_n 0, 1) := by decide +kernel
theorem dX3_save_32 : decode cX3_save 32 = .ok (.dup, 1) := by decide +kernel
theorem dX3_save_33 : decode cX3_save 33 = .ok (.getfield 53, 3) := by decide +kernel
theorem dX3_save_36 : decode cX3_save 36 = .ok (.aload_n 0, 1) := by decide +kernel
theorem dX3_save_37 : decode cX3_save 37 = .ok (.getfield 53, 3) := by decide +kernel
theorem dX3_save_40 : decode cX3_save 40 = .ok (.bipush 6, 2) := by decide +kernel
theorem dX3_save_42 : decode cX3_save 42 = .ok (.if_icmp .ge 7, 3) := by decide +kernel
theorem dX3_save_45 : decode cX3_save 45 = .ok (.iconst 1, 1) := by decide +kernel
theorem dX3_save_46 : decode cX3_save 46 = .ok (.goto 4, 3) := by decide +kernel
theorem dX3_save_49 : decode cX3_save 49 = .ok (.iconst 0, 1) := by decide +kernel
theorem dX3_save_50 : decode cX3_save 50 = .ok (.iadd, 1) := by decide +kernel
theorem dX3_save_51 : decode cX3_save 51 = .ok (.putfield 53, 3) := by decide +kernel
theorem dX3_save_54 : decode cX3_save 54 = .ok (.aload_n 0, 1) := by decide +kernel
theorem dX3_save_55 : decode cX3_save 55 = .ok (.iconst 0, 1) := by decide +kernel
theorem dX3_save_56 : decode cX3_save 56 = .ok (.aload_n 0, 1) := by decide +kernel
theorem dX3_save_57 : decode cX3_save 57 = .ok (.getfield 53, 3) := by decide +kernel
theorem dX3_save_60 : decode cX3_save 60 = .ok (.invokevirtual 56, 3) := by decide +kernel
theorem dX3_save_63 : decode cX3_save 63 = .ok (.return_, 1) := by decide +kernel
theorem dX3_begin_0 : decode cX3_begin 0 = .ok (.aload_n 0, 1) := by decide +kernel
theorem dX3_begin_1 : decode cX3_begin 1 = .ok (.aload_n 0, 1) := by decide +kernel
theorem dX3_begin_2 : decode cX3_begin 2 = .ok (.invokevirtual 60, 3) := by decide +kernel
theorem dX3_begin_5 : decode cX3_begin 5 = .ok (.ifCond .eq 7, 3) := by decide +kernel
theorem dX3_begin_8 : decode cX3_begin 8 = .ok (.iconst 0, 1) := by decide +kernel
theorem dX3_begin_9 : decode cX3_begin 9 = .ok (.goto 4, 3) := by decide +kernel
theorem dX3_begin_12 : decode cX3_begin 12 = .ok (.iconst 1, 1) := by decide +kernel
theorem dX3_begin_13 : decode cX3_begin 13 = .ok (.invokevirtual 64, 3) := by decide +kernel
theorem dX3_begin_16 : decode cX3_begin 16 = .ok (.ifCond .ne 5, 3) := by decide +kernel
theorem dX3_begin_19 : decode cX3_begin 19 = .ok (.iconst 0, 1) := by decide +kernel
theorem dX3_begin_20 : decode cX3_begin 20 = .ok (.ireturn, 1) := by decide +kernel
theorem dX3_begin_21 : decode cX3_begin 21 = .ok (.aload_n 0, 1) := by decide +kernel
theorem dX3_begin_22 : decode cX3_begin 22 = .ok (.invokevirtual 67, 3) := by decide +kernel
theorem dX3_begin_25 : decode cX3_begin 25 = .ok (.aload_n 0, 1) := by decide +kernel
theorem dX3_begin_26 : decode cX3_begin 26 = .ok (.invokevirtual 70, 3) := by decide +kernel
theorem dX3_begin_29 : decode cX3_begin 29 = .ok (.ireturn, 1) := by decide +kernel
theorem dX3_halt_0 : decode cX3_halt 0 = .ok (.aload_n 0, 1) := by decide +kernel
theorem dX3_halt_1 : decode cX3_halt 1 = .ok (.aload_n 0, 1) := by decide +kernel
theorem dX3_halt_2 : decode cX3_halt 2 = .ok (.getfield 7, 3) := by decide +kernel
theorem dX3_halt_5 : decode cX3_halt 5 = .ok (.iconst 1, 1) := by decide +kernel
theorem dX3_halt_6 : decode cX3_halt 6 = .ok (.iaload, 1) := by decide +kernel
theorem dX3_halt_7 : decode cX3_halt 7 = .ok (.iconst (-1), 1) := by decide +kernel
theorem dX3_halt_8 : decode cX3_halt 8 = .ok (.if_icmp .ne 7, 3) := by decide +kernel
theorem dX3_halt_11 : decode cX3_halt 11 = .ok (.iconst 1, 1) := by decide +kernel
theorem dX3_halt_12 : decode cX3_halt 12 = .ok (.goto 4, 3) := by decide +kernel
theorem dX3_halt_15 : decode cX3_halt 15 = .ok (.iconst 0, 1) := by decide +kernel
theorem dX3_halt_16 : decode cX3_halt 16 = .ok (.invokevirtual 64, 3) := by decide +kernel
theorem dX3_halt_19 : decode cX3_halt 19 = .ok (.ifCond .ne 5, 3) := by decide +kernel
theorem dX3_halt_22 : decode cX3_halt 22 = .ok (.iconst 0, 1) := by decide +kernel
theorem dX3_halt_23 : decode cX3_halt 23 = .ok (.ireturn, 1) := by decide +kernel
theorem dX3_halt_24 : decode cX3_halt 24 = .ok (.aload_n 0, 1) := by decide +kernel
theorem dX3_halt_25 : decode cX3_halt 25 = .ok (.invokevirtual 67, 3) := by decide +kernel
theorem dX3_halt_28 : decode cX3_halt 28 = .ok (.aload_n 0, 1) := by decide +kernel
theorem dX3_halt_29 : decode cX3_halt 29 = .ok (.invokevirtual 42, 3) := by decide +kernel
theorem dX3_halt_32 : decode cX3_halt 32 = .ok (.ireturn, 1) := by decide +kernel
theorem dX3_isSound_0 : decode cX3_isSound 0 = .ok (.iload_n 0, 1) := by decide +kernel
theorem dX3_isSound_1 : decode cX3_isSound 1 = .ok (.iconst 0, 1) := by decide +kernel
theorem dX3_isSound_2 : decode cX3_isSound 2 = .ok (.bipush 99, 2) := by decide +kernel
theorem dX3_isSound_4 : decode cX3_isSound 4 = .ok (.invokestatic 20, 3) := by decide +kernel
theorem dX3_isSound_7 : decode cX3_isSound 7 = .ok (.ireturn, 1) := by decide +kernel
theorem dX3_speak_0 : decode cX3_speak 0 = .ok (.aload_n 0, 1) := by decide +kernel
theorem dX3_speak_1 : decode cX3_speak 1 = .ok (.iload_n 1, 1) := by decide +kernel
theorem dX3_speak_2 : decode cX3_speak 2 = .ok (.invokestatic 73, 3) := by decide +kernel
theorem dX3_speak_5 : decode cX3_speak 5 = .ok (.ifCond .ne 7, 3) := by decide +kernel
theorem dX3_speak_8 : decode cX3_speak 8 = .ok (.iconst 1, 1) := by decide +kernel
theorem dX3_speak_9 : decode cX3_speak 9 = .ok (.goto 16, 3) := by decide +kernel
theorem dX3_speak_12 : decode cX3_speak 12 = .ok (.aload_n 0, 1) := by decide +kernel
theorem dX3_speak_13 : decode cX3_speak 13 = .ok (.iconst 1, 1) := by decide +kernel
theorem dX3_speak_14 : decode cX3_speak 14 = .ok (.invokevirtual 76, 3) := by decide +kernel
theorem dX3_speak_17 : decode cX3_speak 17 = .ok (.ifCond .ne 7, 3) := by decide +kernel
theorem dX3_speak_20 : decode cX3_speak 20 = .ok (.iconst 2, 1) := by decide +kernel
theorem dX3_speak_21 : decode cX3_speak 21 = .ok (.goto 4, 3) := by decide +kernel
theorem dX3_speak_24 : decode cX3_speak 24 = .ok (.iconst 0, 1) := by decide +kernel
theorem dX3_speak_25 : decode cX3_speak 25 = .ok (.invokevirtual 64, 3) := by decide +kernel
theorem dX3_speak_28 : decode cX3_speak 28 = .ok (.ifCond .ne 5, 3) := by decide +kernel
theorem dX3_speak_31 : decode cX3_speak 31 = .ok (.iconst 0, 1) := by decide +kernel
theorem dX3_speak_32 : decode cX3_speak 32 = .ok (.ireturn, 1) := by decide +kernel
theorem dX3_speak_33 : decode cX3_speak 33 = .ok (.aload_n 0, 1) := by decide +kernel
theorem dX3_speak_34 : decode cX3_speak 34 = .ok (.invokevirtual 67, 3) := by decide +kernel
theorem dX3_speak_37 : decode cX3_speak 37 = .ok (.aload_n 0, 1) := by decide +kernel
theorem dX3_speak_38 : decode cX3_speak 38 = .ok (.iload_n 1, 1) := by decide +kernel
theorem dX3_speak_39 : decode cX3_speak 39 = .ok (.invokevirtual 79, 3) := by decide +kernel
theorem dX3_speak_42 : decode cX3_speak 42 = .ok (.ireturn, 1) := by decide +kernel
theorem dX3_setFlag_0 : decode cX3_setFlag 0 = .ok (.aload_n 0, 1) := by decide +kernel
theorem dX3_setFlag_1 : decode cX3_setFlag 1 = .ok (.aload_n 0, 1) := by decide +kernel
theorem dX3_setFlag_2 : decode cX3_setFlag 2 = .ok (.iload_n 1, 1) := by decide +kernel
theorem dX3_setFlag_3 : decode cX3_setFlag 3 = .ok (.invokevirtual 82, 3) := by decide +kernel
theorem dX3_setFlag_6 : decode cX3_setFlag 6 = .ok (.ifCond .eq 7, 3) := by decide +kernel
theorem dX3_setFlag_9 : decode cX3_setFlag 9 = .ok (.iconst 0, 1) := by decide +kernel
theorem dX3_setFlag_10 : decode cX3_setFlag 10 = .ok (.goto 4, 3) := by decide +kernel
theorem dX3_setFlag_13 : decode cX3_setFlag 13 = .ok (.iconst 1, 1) := by decide +kernel
theorem dX3_setFlag_14 : decode cX3_setFlag 14 = .ok (.invokevirtual 64, 3) := by decide +kernel
theorem dX3_setFlag_17 : decode cX3_setFlag 17 = .ok (.ifCond .ne 5, 3) := by decide +kernel
theorem dX3_setFlag_20 : decode cX3_setFlag 20 = .ok (.iconst 0, 1) := by decide +kernel
theorem dX3_setFlag_21 : decode cX3_setFlag 21 = .ok (.ireturn, 1) := by decide +kernel
theorem dX3_setFlag_22 : decode cX3_setFlag 22 = .ok (.aload_n 0, 1) := by decide +kernel
theorem dX3_setFlag_23 : decode cX3_setFlag 23 = .ok (.invokevirtual 67, 3) := by decide +kernel
theorem dX3_setFlag_26 : decode cX3_setFlag 26 = .ok (.aload_n 0, 1) := by decide +kernel
theorem dX3_setFlag_27 : decode cX3_setFlag 27 = .ok (.getfield 7, 3) := by decide +kernel
theorem dX3_setFlag_30 : decode cX3_setFlag 30 = .ok (.bipush 7, 2) := by decide +kernel
theorem dX3_setFlag_32 : decode cX3_setFlag 32 = .ok (.iload_n 1, 1) := by decide +kernel
theorem dX3_setFlag_33 : decode cX3_setFlag 33 = .ok (.iadd, 1) := by decide +kernel
theorem dX3_setFlag_34 : decode cX3_setFlag 34 = .ok (.iaload, 1) := by decide +kernel
theorem dX3_setFlag_35 : decode cX3_setFlag 35 = .ok (.iconst 1, 1) := by decide +kernel
theorem dX3_setFlag_36 : decode cX3_setFlag 36 = .ok (.if_icmp .ne 7, 3) := by decide +kernel
theorem dX3_setFlag_39 : decode cX3_setFlag 39 = .ok (.iconst 1, 1) := by decide +kernel
theorem dX3_setFlag_40 : decode cX3_setFlag 40 = .ok (.goto 4, 3) := by decide +kernel
theorem dX3_setFlag_43 : decode cX3_setFlag 43 = .ok (.iconst 0, 1) := by decide +kernel
theorem dX3_setFlag_44 : decode cX3_setFlag 44 = .ok (.istore_n 3, 1) := by decide +kernel
theorem dX3_setFlag_45 : decode cX3_setFlag 45 = .ok (.aload_n 0, 1) := by decide +kernel
theorem dX3_setFlag_46 : decode cX3_setFlag 46 = .ok (.getfield 7, 3) := by decide +kernel
theorem dX3_setFlag_49 : decode cX3_setFlag 49 = .ok (.bipush 7, 2) := by decide +kernel
theorem dX3_setFlag_51 : decode cX3_setFlag 51 = .ok (.iload_n 1, 1) := by decide +kernel
theorem dX3_setFlag_52 : decode cX3_setFlag 52 = .ok (.iadd, 1) := by decide +kernel
theorem dX3_setFlag_53 : decode cX3_setFlag 53 = .ok (.iload_n 2, 1) := by decide +kernel
theorem dX3_setFlag_54 : decode cX3_setFlag 54 = .ok (.ifCond .eq 7, 3) := by decide +kernel
theorem dX3_setFlag_57 : decode cX3_setFlag 57 = .ok (.iconst 1, 1) := by decide +kernel
theorem dX3_setFlag_58 : decode cX3_setFlag 58 = .ok (.goto 4, 3) := by decide +kernel
theorem dX3_setFlag_61 : decode cX3_setFlag 61 = .ok (.iconst 0, 1) := by decide +kernel
theorem dX3_setFlag_62 : decode cX3_setFlag 62 = .ok (.iastore, 1) := by decide +kernel
theorem dX3_setFlag_63 : decode cX3_setFlag 63 = .ok (.iload_n 3, 1) := by decide +kernel
theorem dX3_setFlag_64 : decode cX3_setFlag 64 = .ok (.ireturn, 1) := by decide +kernel
theorem dX3_erase_0 : decode cX3_erase 0 = .ok (.aload_n 0, 1) := by decide +kernel
theorem dX3_erase_1 : decode cX3_erase 1 = .ok (.iload_n 1, 1) := by decide +kernel
theorem dX3_erase_2 : decode cX3_erase 2 = .ok (.invokevirtual 82, 3) := by decide +kernel
theorem dX3_erase_5 : decode cX3_erase 5 = .ok (.istore_n 2, 1) := by decide +kernel
theorem dX3_erase_6 : decode cX3_erase 6 = .ok (.aload_n 0, 1) := by decide +kernel
theorem dX3_erase_7 : decode cX3_erase 7 = .ok (.iload_n 2, 1) := by decide +kernel
theorem dX3_erase_8 : decode cX3_erase 8 = .ok (.ifCond .ne 7, 3) := by decide +kernel
theorem dX3_erase_11 : decode cX3_erase 11 = .ok (.iconst 1, 1) := by decide +kernel
theorem dX3_erase_12 : decode cX3_erase 12 = .ok (.goto 21, 3) := by decide +kernel
theorem dX3_erase_15 : decode cX3_erase 15 = .ok (.aload_n 0, 1) := by decide +kernel
theorem dX3_erase_16 : decode cX3_erase 16 = .ok (.getfield 7, 3) := by decide +kernel
theorem dX3_erase_19 : decode cX3_erase 19 = .ok (.bipush 7, 2) := by decide +kernel
theorem dX3_erase_21 : decode cX3_erase 21 = .ok (.iload_n 1, 1) := by decide +kernel
theorem dX3_erase_22 : decode cX3_erase 22 = .ok (.iadd, 1) := by decide +kernel
theorem dX3_erase_23 : decode cX3_erase 23 = .ok (.iaload, 1) := by decide +kernel
theorem dX3_erase_24 : decode cX3_erase 24 = .ok (.iconst 1, 1) := by decide +kernel
theorem dX3_erase_25 : decode cX3_erase 25 = .ok (.if_icmp .ne 7, 3) := by decide +kernel
theorem dX3_erase_28 : decode cX3_erase 28 = .ok (.iconst 2, 1) := by decide +kernel
theorem dX3_erase_29 : decode cX3_erase 29 = .ok (.goto 4, 3) := by decide +kernel
theorem dX3_erase_32 : decode cX3_erase 32 = .ok (.iconst 0, 1) := by decide +kernel
theorem dX3_erase_33 : decode cX3_erase 33 = .ok (.invokevirtual 64, 3) := by decide +kernel
theorem dX3_erase_36 : decode cX3_erase 36 = .ok (.ifCond .ne 5, 3) := by decide +kernel
theorem dX3_erase_39 : decode cX3_erase 39 = .ok (.iconst 0, 1) := by decide +kernel
theorem dX3_erase_40 : decode cX3_erase 40 = .ok (.ireturn, 1) := by decide +kernel
theorem dX3_erase_41 : decode cX3_erase 41 = .ok (.aload_n 0, 1) := by decide +kernel
theorem dX3_erase_42 : decode cX3_erase 42 = .ok (.invokevirtual 67, 3) := by decide +kernel
theorem dX3_erase_45 : decode cX3_erase 45 = .ok (.aload_n 0, 1) := by decide +kernel
theorem dX3_erase_46 : decode cX3_erase 46 = .ok (.iload_n 1, 1) := by decide +kernel
theorem dX3_erase_47 : decode cX3_erase 47 = .ok (.invokevirtual 32, 3) := by decide +kernel
theorem dX3_erase_50 : decode cX3_erase 50 = .ok (.istore_n 3, 1) := by decide +kernel
theorem dX3_erase_51 : decode cX3_erase 51 = .ok (.aload_n 0, 1) := by decide +kernel
theorem dX3_erase_52 : decode cX3_erase 52 = .ok (.iload_n 1, 1) := by decide +kernel
theorem dX3_erase_53 : decode cX3_erase 53 = .ok (.invokevirtual 35, 3) := by decide +kernel
theorem dX3_erase_56 : decode cX3_erase 56 = .ok (.iload_n 3, 1) := by decide +kernel
theorem dX3_erase_57 : decode cX3_erase 57 = .ok (.ireturn, 1) := by decide +kernel
theorem dX3_moveHead_0 : decode cX3_moveHead 0 = .ok (.aload_n 0, 1) := by decide +kernel
theorem dX3_moveHead_1 : decode cX3_moveHead 1 = .ok (.iload_n 1, 1) := by decide +kernel
theorem dX3_moveHead_2 : decode cX3_moveHead 2 = .ok (.invokestatic 85, 3) := by decide +kernel
theorem dX3_moveHead_5 : decode cX3_moveHead 5 = .ok (.ifCond .ne 7, 3) := by decide +kernel
theorem dX3_moveHead_8 : decode cX3_moveHead 8 = .ok (.iconst 1, 1) := by decide +kernel
theorem dX3_moveHead_9 : decode cX3_moveHead 9 = .ok (.goto 18, 3) := by decide +kernel
theorem dX3_moveHead_12 : decode cX3_moveHead 12 = .ok (.aload_n 0, 1) := by decide +kernel
theorem dX3_moveHead_13 : decode cX3_moveHead 13 = .ok (.getfield 7, 3) := by decide +kernel
theorem dX3_moveHead_16 : decode cX3_moveHead 16 = .ok (.iconst 1, 1) := by decide +kernel
theorem dX3_moveHead_17 : decode cX3_moveHead 17 = .ok (.iaload, 1) := by decide +kernel
theorem dX3_moveHead_18 : decode cX3_moveHead 18 = .ok (.iconst (-1), 1) := by decide +kernel
theorem dX3_moveHead_19 : decode cX3_moveHead 19 = .ok (.if_icmp .eq 7, 3) := by decide +kernel
theorem dX3_moveHead_22 : decode cX3_moveHead 22 = .ok (.iconst 2, 1) := by decide +kernel
theorem dX3_moveHead_23 : decode cX3_moveHead 23 = .ok (.goto 4, 3) := by decide +kernel
theorem dX3_moveHead_26 : decode cX3_moveHead 26 = .ok (.iconst 0, 1) := by decide +kernel
theorem dX3_moveHead_27 : decode cX3_moveHead 27 = .ok (.invokevirtual 64, 3) := by decide +kernel
theorem dX3_moveHead_30 : decode cX3_moveHead 30 = .ok (.ifCond .ne 5, 3) := by decide +kernel
theorem dX3_moveHead_33 : decode cX3_moveHead 33 = .ok (.iconst 0, 1) := by decide +kernel
theorem dX3_moveHead_34 : decode cX3_moveHead 34 = .ok (.ireturn, 1) := by decide +kernel
theorem dX3_moveHead_35 : decode cX3_moveHead 35 = .ok (.aload_n 0, 1) := by decide +kernel
theorem dX3_moveHead_36 : decode cX3_moveHead 36 = .ok (.invokevirtual 67, 3) := by decide +kernel
theorem dX3_moveHead_39 : decode cX3_moveHead 39 = .ok (.aload_n 0, 1) := by decide +kernel
theorem dX3_moveHead_40 : decode cX3_moveHead 40 = .ok (.getfield 7, 3) := by decide +kernel
theorem dX3_moveHead_43 : decode cX3_moveHead 43 = .ok (.iconst 2, 1) := by decide +kernel
theorem dX3_moveHead_44 : decode cX3_moveHead 44 = .ok (.iaload, 1) := by decide +kernel
theorem dX3_moveHead_45 : decode cX3_moveHead 45 = .ok (.istore_n 2, 1) := by decide +kernel
theorem dX3_moveHead_46 : decode cX3_moveHead 46 = .ok (.aload_n 0, 1) := by decide +kernel
theorem dX3_moveHead_47 : decode cX3_moveHead 47 = .ok (.getfield 7, 3) := by decide +kernel
theorem dX3_moveHead_50 : decode cX3_moveHead 50 = .ok (.iconst 2, 1) := by decide +kernel
theorem dX3_moveHead_51 : decode cX3_moveHead 51 = .ok (.iload_n 1, 1) := by decide +kernel
theorem dX3_moveHead_52 : decode cX3_moveHead 52 = .ok (.iastore, 1) := by decide +kernel
theorem dX3_moveHead_53 : decode cX3_moveHead 53 = .ok (.iload_n 2, 1) := by decide +kernel
theorem dX3_moveHead_54 : decode cX3_moveHead 54 = .ok (.ireturn, 1) := by decide +kernel
theorem dX3_recordings_0 : decode cX3_recordings 0 = .ok (.aload_n 0, 1) := by decide +kernel
theorem dX3_recordings_1 : decode cX3_recordings 1 = .ok (.aload_n 0, 1) := by decide +kernel
theorem dX3_recordings_2 : decode cX3_recordings 2 = .ok (.getfield 7, 3) := by decide +kernel
theorem dX3_recordings_5 : decode cX3_recordings 5 = .ok (.iconst 0, 1) := by decide +kernel
theorem dX3_recordings_6 : decode cX3_recordings 6 = .ok (.iaload, 1) := by decide +kernel
theorem dX3_recordings_7 : decode cX3_recordings 7 = .ok (.invokevirtual 88, 3) := by decide +kernel
theorem dX3_recordings_10 : decode cX3_recordings 10 = .ok (.ireturn, 1) := by decide +kernel
theorem dX3_running_0 : decode cX3_running 0 = .ok (.aload_n 0, 1) := by decide +kernel
theorem dX3_running_1 : decode cX3_running 1 = .ok (.aload_n 0, 1) := by decide +kernel
theorem dX3_running_2 : decode cX3_running 2 = .ok (.getfield 7, 3) := by decide +kernel
theorem dX3_running_5 : decode cX3_running 5 = .ok (.iconst 1, 1) := by decide +kernel
theorem dX3_running_6 : decode cX3_running 6 = .ok (.iaload, 1) := by decide +kernel
theorem dX3_running_7 : decode cX3_running 7 = .ok (.invokevirtual 88, 3) := by decide +kernel
theorem dX3_running_10 : decode cX3_running 10 = .ok (.ireturn, 1) := by decide +kernel
theorem dX3_head_0 : decode cX3_head 0 = .ok (.aload_n 0, 1) := by decide +kernel
theorem dX3_head_1 : decode cX3_head 1 = .ok (.aload_n 0, 1) := by decide +kernel
theorem dX3_head_2 : decode cX3_head 2 = .ok (.getfield 7, 3) := by decide +kernel
theorem dX3_head_5 : decode cX3_head 5 = .ok (.iconst 2, 1) := by decide +kernel
theorem dX3_head_6 : decode cX3_head 6 = .ok (.iaload, 1) := by decide +kernel
theorem dX3_head_7 : decode cX3_head 7 = .ok (.invokevirtual 88, 3) := by decide +kernel
theorem dX3_head_10 : decode cX3_head 10 = .ok (.ireturn, 1) := by decide +kernel
theorem dX3_length_0 : decode cX3_length 0 = .ok (.aload_n 0, 1) := by decide +kernel
theorem dX3_length_1 : decode cX3_length 1 = .ok (.aload_n 0, 1) := by decide +kernel
theorem dX3_length_2 : decode cX3_length 2 = .ok (.iload_n 1, 1) := by decide +kernel
theorem dX3_length_3 : decode cX3_length 3 = .ok (.invokevirtual 82, 3) := by decide +kernel
theorem dX3_length_6 : decode cX3_length 6 = .ok (.ifCond .eq 7, 3) := by decide +kernel
theorem dX3_length_9 : decode cX3_length 9 = .ok (.iconst 0, 1) := by decide +kernel
theorem dX3_length_10 : decode cX3_length 10 = .ok (.goto 4, 3) := by decide +kernel
theorem dX3_length_13 : decode cX3_length 13 = .ok (.iconst 1, 1) := by decide +kernel
theorem dX3_length_14 : decode cX3_length 14 = .ok (.invokevirtual 64, 3) := by decide +kernel
theorem dX3_length_17 : decode cX3_length 17 = .ok (.ifCond .eq 11, 3) := by decide +kernel
theorem dX3_length_20 : decode cX3_length 20 = .ok (.aload_n 0, 1) := by decide +kernel
theorem dX3_length_21 : decode cX3_length 21 = .ok (.iload_n 1, 1) := by decide +kernel
theorem dX3_length_22 : decode cX3_length 22 = .ok (.invokevirtual 32, 3) := by decide +kernel
theorem dX3_length_25 : decode cX3_length 25 = .ok (.goto 4, 3) := by decide +kernel
theorem dX3_length_28 : decode cX3_length 28 = .ok (.iconst 0, 1) := by decide +kernel
theorem dX3_length_29 : decode cX3_length 29 = .ok (.ireturn, 1) := by decide +kernel
theorem dX3_ofPlace_0 : decode cX3_ofPlace 0 = .ok (.aload_n 0, 1) := by decide +kernel
theorem dX3_ofPlace_1 : decode cX3_ofPlace 1 = .ok (.aload_n 0, 1) := by decide +kernel
theorem dX3_ofPlace_2 : decode cX3_ofPlace 2 = .ok (.iload_n 1, 1) := by decide +kernel
theorem dX3_ofPlace_3 : decode cX3_ofPlace 3 = .ok (.invokevirtual 82, 3) := by decide +kernel
theorem dX3_ofPlace_6 : decode cX3_ofPlace 6 = .ok (.ifCond .eq 11, 3) := by decide +kernel
theorem dX3_ofPlace_9 : decode cX3_ofPlace 9 = .ok (.iload_n 2, 1) := by decide +kernel
theorem dX3_ofPlace_10 : decode cX3_ofPlace 10 = .ok (.ifCond .lt 7, 3) := by decide +kernel
theorem dX3_ofPlace_13 : decode cX3_ofPlace 13 = .ok (.iconst 0, 1) := by decide +kernel
theorem dX3_ofPlace_14 : decode cX3_ofPlace 14 = .ok (.goto 4, 3) := by decide +kernel
theorem dX3_ofPlace_17 : decode cX3_ofPlace 17 = .ok (.iconst 1, 1) := by decide +kernel
theorem dX3_ofPlace_18 : decode cX3_ofPlace 18 = .ok (.invokevirtual 64, 3) := by decide +kernel
theorem dX3_ofPlace_21 : decode cX3_ofPlace 21 = .ok (.ifCond .ne 5, 3) := by decide +kernel
theorem dX3_ofPlace_24 : decode cX3_ofPlace 24 = .ok (.iconst 0, 1) := by decide +kernel
theorem dX3_ofPlace_25 : decode cX3_ofPlace 25 = .ok (.ireturn, 1) := by decide +kernel
theorem dX3_ofPlace_26 : decode cX3_ofPlace 26 = .ok (.aload_n 0, 1) := by decide +kernel
theorem dX3_ofPlace_27 : decode cX3_ofPlace 27 = .ok (.iload_n 1, 1) := by decide +kernel
theorem dX3_ofPlace_28 : decode cX3_ofPlace 28 = .ok (.iload_n 2, 1) := by decide +kernel
theorem dX3_ofPlace_29 : decode cX3_ofPlace 29 = .ok (.invokevirtual 49, 3) := by decide +kernel
theorem dX3_ofPlace_32 : decode cX3_ofPlace 32 = .ok (.istore 4, 2) := by decide +kernel
theorem dX3_ofPlace_34 : decode cX3_ofPlace 34 = .ok (.iload 4, 2) := by decide +kernel
theorem dX3_ofPlace_36 : decode cX3_ofPlace 36 = .ok (.iconst (-1), 1) := by decide +kernel
theorem dX3_ofPlace_37 : decode cX3_ofPlace 37 = .ok (.if_icmp .eq 7, 3) := by decide +kernel
theorem dX3_ofPlace_40 : decode cX3_ofPlace 40 = .ok (.iload_n 3, 1) := by decide +kernel
theorem dX3_ofPlace_41 : decode cX3_ofPlace 41 = .ok (.ifCond .ne 8, 3) := by decide +kernel
theorem dX3_ofPlace_44 : decode cX3_ofPlace 44 = .ok (.iload 4, 2) := by decide +kernel
theorem dX3_ofPlace_46 : decode cX3_ofPlace 46 = .ok (.goto 12, 3) := by decide +kernel
theorem dX3_ofPlace_49 : decode cX3_ofPlace 49 = .ok (.aload_n 0, 1) := by decide +kernel
theorem dX3_ofPlace_50 : decode cX3_ofPlace 50 = .ok (.getfield 7, 3) := by decide +kernel
theorem dX3_ofPlace_53 : decode cX3_ofPlace 53 = .ok (.iload_n 3, 1) := by decide +kernel
theorem dX3_ofPlace_54 : decode cX3_ofPlace 54 = .ok (.iload 4, 2) := by decide +kernel
theorem dX3_ofPlace_56 : decode cX3_ofPlace 56 = .ok (.iadd, 1) := by decide +kernel
theorem dX3_ofPlace_57 : decode cX3_ofPlace 57 = .ok (.iaload, 1) := by decide +kernel
theorem dX3_ofPlace_58 : decode cX3_ofPlace 58 = .ok (.ireturn, 1) := by decide +kernel
theorem dX3_sound_0 : decode cX3_sound 0 = .ok (.aload_n 0, 1) := by decide +kernel
theorem dX3_sound_1 : decode cX3_sound 1 = .ok (.iload_n 1, 1) := by decide +kernel
theorem dX3_sound_2 : decode cX3_sound 2 = .ok (.iload_n 2, 1) := by decide +kernel
theorem dX3_sound_3 : decode cX3_sound 3 = .ok (.bipush 59, 2) := by decide +kernel
theorem dX3_sound_5 : decode cX3_sound 5 = .ok (.invokevirtual 91, 3) := by decide +kernel
theorem dX3_sound_8 : decode cX3_sound 8 = .ok (.ireturn, 1) := by decide +kernel
theorem dX3_cellOf_0 : decode cX3_cellOf 0 = .ok (.aload_n 0, 1) := by decide +kernel
theorem dX3_cellOf_1 : decode cX3_cellOf 1 = .ok (.iload_n 1, 1) := by decide +kernel
theorem dX3_cellOf_2 : decode cX3_cellOf 2 = .ok (.iload_n 2, 1) := by decide +kernel
theorem dX3_cellOf_3 : decode cX3_cellOf 3 = .ok (.iconst 0, 1) := by decide +kernel
theorem dX3_cellOf_4 : decode cX3_cellOf 4 = .ok (.invokevirtual 91, 3) := by decide +kernel
theorem dX3_cellOf_7 : decode cX3_cellOf 7 = .ok (.ireturn, 1) := by decide +kernel
theorem dX3_hasFlag_0 : decode cX3_hasFlag 0 = .ok (.aload_n 0, 1) := by decide +kernel
theorem dX3_hasFlag_1 : decode cX3_hasFlag 1 = .ok (.aload_n 0, 1) := by decide +kernel
theorem dX3_hasFlag_2 : decode cX3_hasFlag 2 = .ok (.iload_n 1, 1) := by decide +kernel
theorem dX3_hasFlag_3 : decode cX3_hasFlag 3 = .ok (.invokevirtual 82, 3) := by decide +kernel
theorem dX3_hasFlag_6 : decode cX3_hasFlag 6 = .ok (.ifCond .eq 7, 3) := by decide +kernel
theorem dX3_hasFlag_9 : decode cX3_hasFlag 9 = .ok (.iconst 0, 1) := by decide +kernel
theorem dX3_hasFlag_10 : decode cX3_hasFlag 10 = .ok (.goto 4, 3) := by decide +kernel
theorem dX3_hasFlag_13 : decode cX3_hasFlag 13 = .ok (.iconst 1, 1) := by decide +kernel
theorem dX3_hasFlag_14 : decode cX3_hasFlag 14 = .ok (.invokevirtual 64, 3) := by decide +kernel
theorem dX3_hasFlag_17 : decode cX3_hasFlag 17 = .ok (.ifCond .eq 20, 3) := by decide +kernel
theorem dX3_hasFlag_20 : decode cX3_hasFlag 20 = .ok (.aload_n 0, 1) := by decide +kernel
theorem dX3_hasFlag_21 : decode cX3_hasFlag 21 = .ok (.getfield 7, 3) := by decide +kernel
theorem dX3_hasFlag_24 : decode cX3_hasFlag 24 = .ok (.bipush 7, 2) := by decide +kernel
theorem dX3_hasFlag_26 : decode cX3_hasFlag 26 = .ok (.iload_n 1, 1) := by decide +kernel
theorem dX3_hasFlag_27 : decode cX3_hasFlag 27 = .ok (.iadd, 1) := by decide +kernel
theorem dX3_hasFlag_28 : decode cX3_hasFlag 28 = .ok (.iaload, 1) := by decide +kernel
theorem dX3_hasFlag_29 : decode cX3_hasFlag 29 = .ok (.iconst 1, 1) := by decide +kernel
theorem dX3_hasFlag_30 : decode cX3_hasFlag 30 = .ok (.if_icmp .ne 7, 3) := by decide +kernel
theorem dX3_hasFlag_33 : decode cX3_hasFlag 33 = .ok (.iconst 1, 1) := by decide +kernel
theorem dX3_hasFlag_34 : decode cX3_hasFlag 34 = .ok (.goto 4, 3) := by decide +kernel
theorem dX3_hasFlag_37 : decode cX3_hasFlag 37 = .ok (.iconst 0, 1) := by decide +kernel
theorem dX3_hasFlag_38 : decode cX3_hasFlag 38 = .ok (.ireturn, 1) := by decide +kernel
theorem dX3_lost_0 : decode cX3_lost 0 = .ok (.aload_n 0, 1) := by decide +kernel
theorem dX3_lost_1 : decode cX3_lost 1 = .ok (.aload_n 0, 1) := by decide +kernel
theorem dX3_lost_2 : decode cX3_lost 2 = .ok (.iload_n 1, 1) := by decide +kernel
theorem dX3_lost_3 : decode cX3_lost 3 = .ok (.invokevirtual 82, 3) := by decide +kernel
theorem dX3_lost_6 : decode cX3_lost 6 = .ok (.ifCond .eq 7, 3) := by decide +kernel
theorem dX3_lost_9 : decode cX3_lost 9 = .ok (.iconst 0, 1) := by decide +kernel
theorem dX3_lost_10 : decode cX3_lost 10 = .ok (.goto 4, 3) := by decide +kernel
theorem dX3_lost_13 : decode cX3_lost 13 = .ok (.iconst 1, 1) := by decide +kernel
theorem dX3_lost_14 : decode cX3_lost 14 = .ok (.invokevirtual 64, 3) := by decide +kernel
theorem dX3_lost_17 : decode cX3_lost 17 = .ok (.ifCond .eq 15, 3) := by decide +kernel
theorem dX3_lost_20 : decode cX3_lost 20 = .ok (.aload_n 0, 1) := by decide +kernel
theorem dX3_lost_21 : decode cX3_lost 21 = .ok (.getfield 7, 3) := by decide +kernel
theorem dX3_lost_24 : decode cX3_lost 24 = .ok (.bipush 17, 2) := by decide +kernel
theorem dX3_lost_26 : decode cX3_lost 26 = .ok (.iload_n 1, 1) := by decide +kernel
theorem dX3_lost_27 : decode cX3_lost 27 = .ok (.iadd, 1) := by decide +kernel
theorem dX3_lost_28 : decode cX3_lost 28 = .ok (.iaload, 1) := by decide +kernel
theorem dX3_lost_29 : decode cX3_lost 29 = .ok (.goto 4, 3) := by decide +kernel
theorem dX3_lost_32 : decode cX3_lost 32 = .ok (.iconst 0, 1) := by decide +kernel
theorem dX3_lost_33 : decode cX3_lost 33 = .ok (.ireturn, 1) := by decide +kernel
theorem dX3_owner_0 : decode cX3_owner 0 = .ok (.aload_n 0, 1) := by decide +kernel
theorem dX3_owner_1 : decode cX3_owner 1 = .ok (.iload_n 1, 1) := by decide +kernel
theorem dX3_owner_2 : decode cX3_owner 2 = .ok (.invokestatic 85, 3) := by decide +kernel
theorem dX3_owner_5 : decode cX3_owner 5 = .ok (.ifCond .eq 7, 3) := by decide +kernel
theorem dX3_owner_8 : decode cX3_owner 8 = .ok (.iconst 0, 1) := by decide +kernel
theorem dX3_owner_9 : decode cX3_owner 9 = .ok (.goto 4, 3) := by decide +kernel
theorem dX3_owner_12 : decode cX3_owner 12 = .ok (.iconst 1, 1) := by decide +kernel
theorem dX3_owner_13 : decode cX3_owner 13 = .ok (.invokevirtual 64, 3) := by decide +kernel
theorem dX3_owner_16 : decode cX3_owner 16 = .ok (.ifCond .eq 15, 3) := by decide +kernel
theorem dX3_owner_19 : decode cX3_owner 19 = .ok (.aload_n 0, 1) := by decide +kernel
theorem dX3_owner_20 : decode cX3_owner 20 = .ok (.getfield 7, 3) := by decide +kernel
theorem dX3_owner_23 : decode cX3_owner 23 = .ok (.bipush 27, 2) := by decide +kernel
theorem dX3_owner_25 : decode cX3_owner 25 = .ok (.iload_n 1, 1) := by decide +kernel
theorem dX3_owner_26 : decode cX3_owner 26 = .ok (.iadd, 1) := by decide +kernel
theorem dX3_owner_27 : decode cX3_owner 27 = .ok (.iaload, 1) := by decide +kernel
theorem dX3_owner_28 : decode cX3_owner 28 = .ok (.goto 4, 3) := by decide +kernel
theorem dX3_owner_31 : decode cX3_owner 31 = .ok (.iconst 0, 1) := by decide +kernel
theorem dX3_owner_32 : decode cX3_owner 32 = .ok (.ireturn, 1) := by decide +kernel
theorem dX3_free_0 : decode cX3_free 0 = .ok (.aload_n 0, 1) := by decide +kernel
theorem dX3_free_1 : decode cX3_free 1 = .ok (.aload_n 0, 1) := by decide +kernel
theorem dX3_free_2 : decode cX3_free 2 = .ok (.iconst (-1), 1) := by decide +kernel
theorem dX3_free_3 : decode cX3_free 3 = .ok (.invokevirtual 32, 3) := by decide +kernel
theorem dX3_free_6 : decode cX3_free 6 = .ok (.invokevirtual 88, 3) := by decide +kernel
theorem dX3_free_9 : decode cX3_free 9 = .ok (.ireturn, 1) := by decide +kernel
theorem dX3_spoken_0 : decode cX3_spoken 0 = .ok (.aload_n 0, 1) := by decide +kernel
theorem dX3_spoken_1 : decode cX3_spoken 1 = .ok (.aload_n 0, 1) := by decide +kernel
theorem dX3_spoken_2 : decode cX3_spoken 2 = .ok (.getfield 7, 3) := by decide +kernel
theorem dX3_spoken_5 : decode cX3_spoken 5 = .ok (.iconst 3, 1) := by decide +kernel
theorem dX3_spoken_6 : decode cX3_spoken 6 = .ok (.iaload, 1) := by decide +kernel
theorem dX3_spoken_7 : decode cX3_spoken 7 = .ok (.invokevirtual 88, 3) := by decide +kernel
theorem dX3_spoken_10 : decode cX3_spoken 10 = .ok (.ireturn, 1) := by decide +kernel
theorem dX3_gone_0 : decode cX3_gone 0 = .ok (.aload_n 0, 1) := by decide +kernel
theorem dX3_gone_1 : decode cX3_gone 1 = .ok (.aload_n 0, 1) := by decide +kernel
theorem dX3_gone_2 : decode cX3_gone 2 = .ok (.getfield 7, 3) := by decide +kernel
theorem dX3_gone_5 : decode cX3_gone 5 = .ok (.iconst 4, 1) := by decide +kernel
theorem dX3_gone_6 : decode cX3_gone 6 = .ok (.iaload, 1) := by decide +kernel
theorem dX3_gone_7 : decode cX3_gone 7 = .ok (.invokevirtual 88, 3) := by decide +kernel
theorem dX3_gone_10 : decode cX3_gone 10 = .ok (.ireturn, 1) := by decide +kernel
theorem dX3_usedShare_0 : decode cX3_usedShare 0 = .ok (.aload_n 0, 1) := by decide +kernel
theorem dX3_usedShare_1 : decode cX3_usedShare 1 = .ok (.iconst 0, 1) := by decide +kernel
theorem dX3_usedShare_2 : decode cX3_usedShare 2 = .ok (.putfield 16, 3) := by decide +kernel
theorem dX3_usedShare_5 : decode cX3_usedShare 5 = .ok (.bipush 32, 2) := by decide +kernel
theorem dX3_usedShare_7 : decode cX3_usedShare 7 = .ok (.aload_n 0, 1) := by decide +kernel
theorem dX3_usedShare_8 : decode cX3_usedShare 8 = .ok (.iconst (-1), 1) := by decide +kernel
theorem dX3_usedShare_9 : decode cX3_usedShare 9 = .ok (.invokevirtual 32, 3) := by decide +kernel
theorem dX3_usedShare_12 : decode cX3_usedShare 12 = .ok (.isub, 1) := by decide +kernel
theorem dX3_usedShare_13 : decode cX3_usedShare 13 = .ok (.i2d, 1) := by decide +kernel
end
section
theorem dX3_usedShare_14 : decode cX3_usedShare 14 = .ok (.ldc2_w 95, 3) := by decide +kernel
theorem dX3_usedShare_17 : decode cX3_usedShare 17 = .ok (.ddiv, 1) := by decide +kernel
theorem dX3_usedShare_18 : decode cX3_usedShare 18 = .ok (.dreturn, 1) := by decide +kernel
theorem dX3_go_0 : decode cX3_go 0 = .ok (.aload_n 0, 1) := by decide +kernel
theorem dX3_go_1 : decode cX3_go 1 = .ok (.aload_n 0, 1) := by decide +kernel
theorem dX3_go_2 : decode cX3_go 2 = .ok (.iload_n 1, 1) := by decide +kernel
theorem dX3_go_3 : decode cX3_go 3 = .ok (.invokevirtual 82, 3) := by decide +kernel
theorem dX3_go_6 : decode cX3_go 6 = .ok (.ifCond .eq 7, 3) := by decide +kernel
theorem dX3_go_9 : decode cX3_go 9 = .ok (.iconst 0, 1) := by decide +kernel
theorem dX3_go_10 : decode cX3_go 10 = .ok (.goto 4, 3) := by decide +kernel
theorem dX3_go_13 : decode cX3_go 13 = .ok (.iconst 1, 1) := by decide +kernel
theorem dX3_go_14 : decode cX3_go 14 = .ok (.invokevirtual 64, 3) := by decide +kernel
theorem dX3_go_17 : decode cX3_go 17 = .ok (.ifCond .ne 5, 3) := by decide +kernel
theorem dX3_go_20 : decode cX3_go 20 = .ok (.iconst 0, 1) := by decide +kernel
theorem dX3_go_21 : decode cX3_go 21 = .ok (.ireturn, 1) := by decide +kernel
theorem dX3_go_22 : decode cX3_go 22 = .ok (.aload_n 0, 1) := by decide +kernel
theorem dX3_go_23 : decode cX3_go 23 = .ok (.invokevirtual 67, 3) := by decide +kernel
theorem dX3_go_26 : decode cX3_go 26 = .ok (.aload_n 0, 1) := by decide +kernel
theorem dX3_go_27 : decode cX3_go 27 = .ok (.iload_n 1, 1) := by decide +kernel
theorem dX3_go_28 : decode cX3_go 28 = .ok (.invokevirtual 97, 3) := by decide +kernel
theorem dX3_go_31 : decode cX3_go 31 = .ok (.ireturn, 1) := by decide +kernel
theorem dX3_play_0 : decode cX3_play 0 = .ok (.aload_n 0, 1) := by decide +kernel
theorem dX3_play_1 : decode cX3_play 1 = .ok (.aload_n 0, 1) := by decide +kernel
theorem dX3_play_2 : decode cX3_play 2 = .ok (.getfield 7, 3) := by decide +kernel
theorem dX3_play_5 : decode cX3_play 5 = .ok (.iconst 5, 1) := by decide +kernel
theorem dX3_play_6 : decode cX3_play 6 = .ok (.iaload, 1) := by decide +kernel
theorem dX3_play_7 : decode cX3_play 7 = .ok (.iconst (-1), 1) := by decide +kernel
theorem dX3_play_8 : decode cX3_play 8 = .ok (.if_icmp .ne 7, 3) := by decide +kernel
theorem dX3_play_11 : decode cX3_play 11 = .ok (.iconst 1, 1) := by decide +kernel
theorem dX3_play_12 : decode cX3_play 12 = .ok (.goto 4, 3) := by decide +kernel
theorem dX3_play_15 : decode cX3_play 15 = .ok (.iconst 0, 1) := by decide +kernel
theorem dX3_play_16 : decode cX3_play 16 = .ok (.invokevirtual 64, 3) := by decide +kernel
theorem dX3_play_19 : decode cX3_play 19 = .ok (.ifCond .ne 5, 3) := by decide +kernel
theorem dX3_play_22 : decode cX3_play 22 = .ok (.iconst 0, 1) := by decide +kernel
theorem dX3_play_23 : decode cX3_play 23 = .ok (.ireturn, 1) := by decide +kernel
theorem dX3_play_24 : decode cX3_play 24 = .ok (.aload_n 0, 1) := by decide +kernel
theorem dX3_play_25 : decode cX3_play 25 = .ok (.invokevirtual 67, 3) := by decide +kernel
theorem dX3_play_28 : decode cX3_play 28 = .ok (.aload_n 0, 1) := by decide +kernel
theorem dX3_play_29 : decode cX3_play 29 = .ok (.invokevirtual 100, 3) := by decide +kernel
theorem dX3_play_32 : decode cX3_play 32 = .ok (.ireturn, 1) := by decide +kernel
theorem dX3_back_0 : decode cX3_back 0 = .ok (.aload_n 0, 1) := by decide +kernel
theorem dX3_back_1 : decode cX3_back 1 = .ok (.iload_n 1, 1) := by decide +kernel
theorem dX3_back_2 : decode cX3_back 2 = .ok (.iconst 1, 1) := by decide +kernel
theorem dX3_back_3 : decode cX3_back 3 = .ok (.bipush 9, 2) := by decide +kernel
theorem dX3_back_5 : decode cX3_back 5 = .ok (.invokestatic 20, 3) := by decide +kernel
theorem dX3_back_8 : decode cX3_back 8 = .ok (.ifCond .ne 7, 3) := by decide +kernel
theorem dX3_back_11 : decode cX3_back 11 = .ok (.iconst 1, 1) := by decide +kernel
theorem dX3_back_12 : decode cX3_back 12 = .ok (.goto 18, 3) := by decide +kernel
theorem dX3_back_15 : decode cX3_back 15 = .ok (.aload_n 0, 1) := by decide +kernel
theorem dX3_back_16 : decode cX3_back 16 = .ok (.getfield 7, 3) := by decide +kernel
theorem dX3_back_19 : decode cX3_back 19 = .ok (.iconst 5, 1) := by decide +kernel
theorem dX3_back_20 : decode cX3_back 20 = .ok (.iaload, 1) := by decide +kernel
theorem dX3_back_21 : decode cX3_back 21 = .ok (.iconst (-1), 1) := by decide +kernel
theorem dX3_back_22 : decode cX3_back 22 = .ok (.if_icmp .ne 7, 3) := by decide +kernel
theorem dX3_back_25 : decode cX3_back 25 = .ok (.iconst 2, 1) := by decide +kernel
theorem dX3_back_26 : decode cX3_back 26 = .ok (.goto 4, 3) := by decide +kernel
theorem dX3_back_29 : decode cX3_back 29 = .ok (.iconst 0, 1) := by decide +kernel
theorem dX3_back_30 : decode cX3_back 30 = .ok (.invokevirtual 64, 3) := by decide +kernel
theorem dX3_back_33 : decode cX3_back 33 = .ok (.ifCond .ne 5, 3) := by decide +kernel
theorem dX3_back_36 : decode cX3_back 36 = .ok (.iconst 0, 1) := by decide +kernel
theorem dX3_back_37 : decode cX3_back 37 = .ok (.ireturn, 1) := by decide +kernel
theorem dX3_back_38 : decode cX3_back 38 = .ok (.aload_n 0, 1) := by decide +kernel
theorem dX3_back_39 : decode cX3_back 39 = .ok (.invokevirtual 67, 3) := by decide +kernel
theorem dX3_back_42 : decode cX3_back 42 = .ok (.aload_n 0, 1) := by decide +kernel
theorem dX3_back_43 : decode cX3_back 43 = .ok (.iload_n 1, 1) := by decide +kernel
theorem dX3_back_44 : decode cX3_back 44 = .ok (.invokevirtual 103, 3) := by decide +kernel
theorem dX3_back_47 : decode cX3_back 47 = .ok (.ireturn, 1) := by decide +kernel
theorem dX3_playing_0 : decode cX3_playing 0 = .ok (.aload_n 0, 1) := by decide +kernel
theorem dX3_playing_1 : decode cX3_playing 1 = .ok (.aload_n 0, 1) := by decide +kernel
theorem dX3_playing_2 : decode cX3_playing 2 = .ok (.getfield 7, 3) := by decide +kernel
theorem dX3_playing_5 : decode cX3_playing 5 = .ok (.iconst 5, 1) := by decide +kernel
theorem dX3_playing_6 : decode cX3_playing 6 = .ok (.iaload, 1) := by decide +kernel
theorem dX3_playing_7 : decode cX3_playing 7 = .ok (.invokevirtual 88, 3) := by decide +kernel
theorem dX3_playing_10 : decode cX3_playing 10 = .ok (.ireturn, 1) := by decide +kernel
theorem dX3_place_0 : decode cX3_place 0 = .ok (.aload_n 0, 1) := by decide +kernel
theorem dX3_place_1 : decode cX3_place 1 = .ok (.aload_n 0, 1) := by decide +kernel
theorem dX3_place_2 : decode cX3_place 2 = .ok (.getfield 7, 3) := by decide +kernel
theorem dX3_place_5 : decode cX3_place 5 = .ok (.bipush 6, 2) := by decide +kernel
theorem dX3_place_7 : decode cX3_place 7 = .ok (.iaload, 1) := by decide +kernel
theorem dX3_place_8 : decode cX3_place 8 = .ok (.invokevirtual 88, 3) := by decide +kernel
theorem dX3_place_11 : decode cX3_place 11 = .ok (.ireturn, 1) := by decide +kernel
theorem dX3_correct_0 : decode cX3_correct 0 = .ok (.aload_n 0, 1) := by decide +kernel
theorem dX3_correct_1 : decode cX3_correct 1 = .ok (.iload_n 1, 1) := by decide +kernel
theorem dX3_correct_2 : decode cX3_correct 2 = .ok (.invokevirtual 82, 3) := by decide +kernel
theorem dX3_correct_5 : decode cX3_correct 5 = .ok (.ifCond .eq 16, 3) := by decide +kernel
theorem dX3_correct_8 : decode cX3_correct 8 = .ok (.iload_n 2, 1) := by decide +kernel
theorem dX3_correct_9 : decode cX3_correct 9 = .ok (.ifCond .lt 12, 3) := by decide +kernel
theorem dX3_correct_12 : decode cX3_correct 12 = .ok (.aload_n 0, 1) := by decide +kernel
theorem dX3_correct_13 : decode cX3_correct 13 = .ok (.iload_n 1, 1) := by decide +kernel
theorem dX3_correct_14 : decode cX3_correct 14 = .ok (.iload_n 2, 1) := by decide +kernel
theorem dX3_correct_15 : decode cX3_correct 15 = .ok (.invokevirtual 49, 3) := by decide +kernel
theorem dX3_correct_18 : decode cX3_correct 18 = .ok (.goto 4, 3) := by decide +kernel
theorem dX3_correct_21 : decode cX3_correct 21 = .ok (.iconst (-1), 1) := by decide +kernel
theorem dX3_correct_22 : decode cX3_correct 22 = .ok (.istore 4, 2) := by decide +kernel
theorem dX3_correct_24 : decode cX3_correct 24 = .ok (.aload_n 0, 1) := by decide +kernel
theorem dX3_correct_25 : decode cX3_correct 25 = .ok (.iload 4, 2) := by decide +kernel
theorem dX3_correct_27 : decode cX3_correct 27 = .ok (.iconst (-1), 1) := by decide +kernel
theorem dX3_correct_28 : decode cX3_correct 28 = .ok (.if_icmp .ne 7, 3) := by decide +kernel
theorem dX3_correct_31 : decode cX3_correct 31 = .ok (.iconst 1, 1) := by decide +kernel
theorem dX3_correct_32 : decode cX3_correct 32 = .ok (.goto 32, 3) := by decide +kernel
theorem dX3_correct_35 : decode cX3_correct 35 = .ok (.iload_n 3, 1) := by decide +kernel
theorem dX3_correct_36 : decode cX3_correct 36 = .ok (.invokestatic 73, 3) := by decide +kernel
theorem dX3_correct_39 : decode cX3_correct 39 = .ok (.ifCond .ne 7, 3) := by decide +kernel
theorem dX3_correct_42 : decode cX3_correct 42 = .ok (.iconst 2, 1) := by decide +kernel
theorem dX3_correct_43 : decode cX3_correct 43 = .ok (.goto 21, 3) := by decide +kernel
theorem dX3_correct_46 : decode cX3_correct 46 = .ok (.aload_n 0, 1) := by decide +kernel
theorem dX3_correct_47 : decode cX3_correct 47 = .ok (.getfield 7, 3) := by decide +kernel
theorem dX3_correct_50 : decode cX3_correct 50 = .ok (.bipush 7, 2) := by decide +kernel
theorem dX3_correct_52 : decode cX3_correct 52 = .ok (.iload_n 1, 1) := by decide +kernel
theorem dX3_correct_53 : decode cX3_correct 53 = .ok (.iadd, 1) := by decide +kernel
theorem dX3_correct_54 : decode cX3_correct 54 = .ok (.iaload, 1) := by decide +kernel
theorem dX3_correct_55 : decode cX3_correct 55 = .ok (.iconst 1, 1) := by decide +kernel
theorem dX3_correct_56 : decode cX3_correct 56 = .ok (.if_icmp .ne 7, 3) := by decide +kernel
theorem dX3_correct_59 : decode cX3_correct 59 = .ok (.iconst 3, 1) := by decide +kernel
theorem dX3_correct_60 : decode cX3_correct 60 = .ok (.goto 4, 3) := by decide +kernel
theorem dX3_correct_63 : decode cX3_correct 63 = .ok (.iconst 0, 1) := by decide +kernel
theorem dX3_correct_64 : decode cX3_correct 64 = .ok (.invokevirtual 64, 3) := by decide +kernel
theorem dX3_correct_67 : decode cX3_correct 67 = .ok (.ifCond .ne 5, 3) := by decide +kernel
theorem dX3_correct_70 : decode cX3_correct 70 = .ok (.iconst 0, 1) := by decide +kernel
theorem dX3_correct_71 : decode cX3_correct 71 = .ok (.ireturn, 1) := by decide +kernel
theorem dX3_correct_72 : decode cX3_correct 72 = .ok (.aload_n 0, 1) := by decide +kernel
theorem dX3_correct_73 : decode cX3_correct 73 = .ok (.invokevirtual 67, 3) := by decide +kernel
theorem dX3_correct_76 : decode cX3_correct 76 = .ok (.aload_n 0, 1) := by decide +kernel
theorem dX3_correct_77 : decode cX3_correct 77 = .ok (.getfield 7, 3) := by decide +kernel
theorem dX3_correct_80 : decode cX3_correct 80 = .ok (.bipush 59, 2) := by decide +kernel
theorem dX3_correct_82 : decode cX3_correct 82 = .ok (.iload 4, 2) := by decide +kernel
theorem dX3_correct_84 : decode cX3_correct 84 = .ok (.iadd, 1) := by decide +kernel
theorem dX3_correct_85 : decode cX3_correct 85 = .ok (.iaload, 1) := by decide +kernel
theorem dX3_correct_86 : decode cX3_correct 86 = .ok (.istore 5, 2) := by decide +kernel
theorem dX3_correct_88 : decode cX3_correct 88 = .ok (.aload_n 0, 1) := by decide +kernel
theorem dX3_correct_89 : decode cX3_correct 89 = .ok (.getfield 7, 3) := by decide +kernel
theorem dX3_correct_92 : decode cX3_correct 92 = .ok (.bipush 59, 2) := by decide +kernel
theorem dX3_correct_94 : decode cX3_correct 94 = .ok (.iload 4, 2) := by decide +kernel
theorem dX3_correct_96 : decode cX3_correct 96 = .ok (.iadd, 1) := by decide +kernel
theorem dX3_correct_97 : decode cX3_correct 97 = .ok (.iload_n 3, 1) := by decide +kernel
theorem dX3_correct_98 : decode cX3_correct 98 = .ok (.iastore, 1) := by decide +kernel
theorem dX3_correct_99 : decode cX3_correct 99 = .ok (.iload 5, 2) := by decide +kernel
theorem dX3_correct_101 : decode cX3_correct 101 = .ok (.ireturn, 1) := by decide +kernel
theorem dX3_carbon_0 : decode cX3_carbon 0 = .ok (.aload_n 0, 1) := by decide +kernel
theorem dX3_carbon_1 : decode cX3_carbon 1 = .ok (.iload_n 1, 1) := by decide +kernel
theorem dX3_carbon_2 : decode cX3_carbon 2 = .ok (.iload_n 2, 1) := by decide +kernel
theorem dX3_carbon_3 : decode cX3_carbon 3 = .ok (.bipush 91, 2) := by decide +kernel
theorem dX3_carbon_5 : decode cX3_carbon 5 = .ok (.invokevirtual 91, 3) := by decide +kernel
theorem dX3_carbon_8 : decode cX3_carbon 8 = .ok (.ireturn, 1) := by decide +kernel
theorem dX3_correctedCells_0 : decode cX3_correctedCells 0 = .ok (.iconst 0, 1) := by decide +kernel
theorem dX3_correctedCells_1 : decode cX3_correctedCells 1 = .ok (.istore_n 1, 1) := by decide +kernel
theorem dX3_correctedCells_2 : decode cX3_correctedCells 2 = .ok (.iconst 0, 1) := by decide +kernel
theorem dX3_correctedCells_3 : decode cX3_correctedCells 3 = .ok (.istore_n 2, 1) := by decide +kernel
theorem dX3_correctedCells_4 : decode cX3_correctedCells 4 = .ok (.iload_n 2, 1) := by decide +kernel
theorem dX3_correctedCells_5 : decode cX3_correctedCells 5 = .ok (.bipush 32, 2) := by decide +kernel
theorem dX3_correctedCells_7 : decode cX3_correctedCells 7 = .ok (.if_icmp .ge 51, 3) := by decide +kernel
theorem dX3_correctedCells_10 : decode cX3_correctedCells 10 = .ok (.iload_n 1, 1) := by decide +kernel
theorem dX3_correctedCells_11 : decode cX3_correctedCells 11 = .ok (.aload_n 0, 1) := by decide +kernel
theorem dX3_correctedCells_12 : decode cX3_correctedCells 12 = .ok (.getfield 7, 3) := by decide +kernel
theorem dX3_correctedCells_15 : decode cX3_correctedCells 15 = .ok (.bipush 27, 2) := by decide +kernel
theorem dX3_correctedCells_17 : decode cX3_correctedCells 17 = .ok (.iload_n 2, 1) := by decide +kernel
theorem dX3_correctedCells_18 : decode cX3_correctedCells 18 = .ok (.iadd, 1) := by decide +kernel
theorem dX3_correctedCells_19 : decode cX3_correctedCells 19 = .ok (.iaload, 1) := by decide +kernel
theorem dX3_correctedCells_20 : decode cX3_correctedCells 20 = .ok (.iconst (-1), 1) := by decide +kernel
theorem dX3_correctedCells_21 : decode cX3_correctedCells 21 = .ok (.if_icmp .eq 28, 3) := by decide +kernel
theorem dX3_correctedCells_24 : decode cX3_correctedCells 24 = .ok (.aload_n 0, 1) := by decide +kernel
theorem dX3_correctedCells_25 : decode cX3_correctedCells 25 = .ok (.getfield 7, 3) := by decide +kernel
theorem dX3_correctedCells_28 : decode cX3_correctedCells 28 = .ok (.bipush 59, 2) := by decide +kernel
theorem dX3_correctedCells_30 : decode cX3_correctedCells 30 = .ok (.iload_n 2, 1) := by decide +kernel
theorem dX3_correctedCells_31 : decode cX3_correctedCells 31 = .ok (.iadd, 1) := by decide +kernel
theorem dX3_correctedCells_32 : decode cX3_correctedCells 32 = .ok (.iaload, 1) := by decide +kernel
theorem dX3_correctedCells_33 : decode cX3_correctedCells 33 = .ok (.aload_n 0, 1) := by decide +kernel
theorem dX3_correctedCells_34 : decode cX3_correctedCells 34 = .ok (.getfield 7, 3) := by decide +kernel
theorem dX3_correctedCells_37 : decode cX3_correctedCells 37 = .ok (.bipush 91, 2) := by decide +kernel
theorem dX3_correctedCells_39 : decode cX3_correctedCells 39 = .ok (.iload_n 2, 1) := by decide +kernel
theorem dX3_correctedCells_40 : decode cX3_correctedCells 40 = .ok (.iadd, 1) := by decide +kernel
theorem dX3_correctedCells_41 : decode cX3_correctedCells 41 = .ok (.iaload, 1) := by decide +kernel
theorem dX3_correctedCells_42 : decode cX3_correctedCells 42 = .ok (.if_icmp .eq 7, 3) := by decide +kernel
theorem dX3_correctedCells_45 : decode cX3_correctedCells 45 = .ok (.iconst 1, 1) := by decide +kernel
theorem dX3_correctedCells_46 : decode cX3_correctedCells 46 = .ok (.goto 4, 3) := by decide +kernel
theorem dX3_correctedCells_49 : decode cX3_correctedCells 49 = .ok (.iconst 0, 1) := by decide +kernel
theorem dX3_correctedCells_50 : decode cX3_correctedCells 50 = .ok (.iadd, 1) := by decide +kernel
theorem dX3_correctedCells_51 : decode cX3_correctedCells 51 = .ok (.istore_n 1, 1) := by decide +kernel
theorem dX3_correctedCells_52 : decode cX3_correctedCells 52 = .ok (.iinc 2 1, 3) := by decide +kernel
theorem dX3_correctedCells_55 : decode cX3_correctedCells 55 = .ok (.goto (-51), 3) := by decide +kernel
theorem dX3_correctedCells_58 : decode cX3_correctedCells 58 = .ok (.iload_n 1, 1) := by decide +kernel
theorem dX3_correctedCells_59 : decode cX3_correctedCells 59 = .ok (.ireturn, 1) := by decide +kernel
theorem dX3_corrected_0 : decode cX3_corrected 0 = .ok (.aload_n 0, 1) := by decide +kernel
theorem dX3_corrected_1 : decode cX3_corrected 1 = .ok (.aload_n 0, 1) := by decide +kernel
theorem dX3_corrected_2 : decode cX3_corrected 2 = .ok (.invokevirtual 106, 3) := by decide +kernel
theorem dX3_corrected_5 : decode cX3_corrected 5 = .ok (.invokevirtual 88, 3) := by decide +kernel
theorem dX3_corrected_8 : decode cX3_corrected 8 = .ok (.ireturn, 1) := by decide +kernel
theorem dX3_room_0 : decode cX3_room 0 = .ok (.aload_n 0, 1) := by decide +kernel
theorem dX3_room_1 : decode cX3_room 1 = .ok (.aload_n 0, 1) := by decide +kernel
theorem dX3_room_2 : decode cX3_room 2 = .ok (.invokevirtual 46, 3) := by decide +kernel
theorem dX3_room_5 : decode cX3_room 5 = .ok (.invokevirtual 88, 3) := by decide +kernel
theorem dX3_room_8 : decode cX3_room 8 = .ok (.ireturn, 1) := by decide +kernel
theorem dX3_loser_0 : decode cX3_loser 0 = .ok (.iconst 0, 1) := by decide +kernel
theorem dX3_loser_1 : decode cX3_loser 1 = .ok (.istore_n 1, 1) := by decide +kernel
theorem dX3_loser_2 : decode cX3_loser 2 = .ok (.iload_n 1, 1) := by decide +kernel
theorem dX3_loser_3 : decode cX3_loser 3 = .ok (.bipush 32, 2) := by decide +kernel
theorem dX3_loser_5 : decode cX3_loser 5 = .ok (.if_icmp .ge 52, 3) := by decide +kernel
theorem dX3_loser_8 : decode cX3_loser 8 = .ok (.aload_n 0, 1) := by decide +kernel
theorem dX3_loser_9 : decode cX3_loser 9 = .ok (.getfield 7, 3) := by decide +kernel
theorem dX3_loser_12 : decode cX3_loser 12 = .ok (.iconst 2, 1) := by decide +kernel
theorem dX3_loser_13 : decode cX3_loser 13 = .ok (.iaload, 1) := by decide +kernel
theorem dX3_loser_14 : decode cX3_loser 14 = .ok (.iload_n 1, 1) := by decide +kernel
theorem dX3_loser_15 : decode cX3_loser 15 = .ok (.iadd, 1) := by decide +kernel
theorem dX3_loser_16 : decode cX3_loser 16 = .ok (.bipush 32, 2) := by decide +kernel
theorem dX3_loser_18 : decode cX3_loser 18 = .ok (.irem, 1) := by decide +kernel
theorem dX3_loser_19 : decode cX3_loser 19 = .ok (.istore_n 2, 1) := by decide +kernel
theorem dX3_loser_20 : decode cX3_loser 20 = .ok (.aload_n 0, 1) := by decide +kernel
theorem dX3_loser_21 : decode cX3_loser 21 = .ok (.getfield 7, 3) := by decide +kernel
theorem dX3_loser_24 : decode cX3_loser 24 = .ok (.bipush 27, 2) := by decide +kernel
theorem dX3_loser_26 : decode cX3_loser 26 = .ok (.iload_n 2, 1) := by decide +kernel
theorem dX3_loser_27 : decode cX3_loser 27 = .ok (.iadd, 1) := by decide +kernel
theorem dX3_loser_28 : decode cX3_loser 28 = .ok (.iaload, 1) := by decide +kernel
theorem dX3_loser_29 : decode cX3_loser 29 = .ok (.iconst (-1), 1) := by decide +kernel
theorem dX3_loser_30 : decode cX3_loser 30 = .ok (.if_icmp .eq 21, 3) := by decide +kernel
theorem dX3_loser_33 : decode cX3_loser 33 = .ok (.aload_n 0, 1) := by decide +kernel
theorem dX3_loser_34 : decode cX3_loser 34 = .ok (.iload_n 2, 1) := by decide +kernel
theorem dX3_loser_35 : decode cX3_loser 35 = .ok (.invokevirtual 28, 3) := by decide +kernel
theorem dX3_loser_38 : decode cX3_loser 38 = .ok (.ifCond .eq 13, 3) := by decide +kernel
theorem dX3_loser_41 : decode cX3_loser 41 = .ok (.aload_n 0, 1) := by decide +kernel
theorem dX3_loser_42 : decode cX3_loser 42 = .ok (.getfield 7, 3) := by decide +kernel
theorem dX3_loser_45 : decode cX3_loser 45 = .ok (.bipush 27, 2) := by decide +kernel
theorem dX3_loser_47 : decode cX3_loser 47 = .ok (.iload_n 2, 1) := by decide +kernel
theorem dX3_loser_48 : decode cX3_loser 48 = .ok (.iadd, 1) := by decide +kernel
theorem dX3_loser_49 : decode cX3_loser 49 = .ok (.iaload, 1) := by decide +kernel
theorem dX3_loser_50 : decode cX3_loser 50 = .ok (.ireturn, 1) := by decide +kernel
theorem dX3_loser_51 : decode cX3_loser 51 = .ok (.iinc 1 1, 3) := by decide +kernel
theorem dX3_loser_54 : decode cX3_loser 54 = .ok (.goto (-52), 3) := by decide +kernel
theorem dX3_loser_57 : decode cX3_loser 57 = .ok (.iconst (-1), 1) := by decide +kernel
theorem dX3_loser_58 : decode cX3_loser 58 = .ok (.ireturn, 1) := by decide +kernel
theorem dX3_nextLoser_0 : decode cX3_nextLoser 0 = .ok (.aload_n 0, 1) := by decide +kernel
theorem dX3_nextLoser_1 : decode cX3_nextLoser 1 = .ok (.aload_n 0, 1) := by decide +kernel
theorem dX3_nextLoser_2 : decode cX3_nextLoser 2 = .ok (.invokevirtual 109, 3) := by decide +kernel
theorem dX3_nextLoser_5 : decode cX3_nextLoser 5 = .ok (.invokevirtual 88, 3) := by decide +kernel
theorem dX3_nextLoser_8 : decode cX3_nextLoser 8 = .ok (.ireturn, 1) := by decide +kernel
theorem dX3_loss_0 : decode cX3_loss 0 = .ok (.iload_n 2, 1) := by decide +kernel
theorem dX3_loss_1 : decode cX3_loss 1 = .ok (.istore_n 3, 1) := by decide +kernel
theorem dX3_loss_2 : decode cX3_loss 2 = .ok (.iconst 0, 1) := by decide +kernel
theorem dX3_loss_3 : decode cX3_loss 3 = .ok (.istore 4, 2) := by decide +kernel
theorem dX3_loss_5 : decode cX3_loss 5 = .ok (.iconst 0, 1) := by decide +kernel
theorem dX3_loss_6 : decode cX3_loss 6 = .ok (.istore 5, 2) := by decide +kernel
theorem dX3_loss_8 : decode cX3_loss 8 = .ok (.iload 5, 2) := by decide +kernel
theorem dX3_loss_10 : decode cX3_loss 10 = .ok (.bipush 32, 2) := by decide +kernel
theorem dX3_loss_12 : decode cX3_loss 12 = .ok (.if_icmp .ge 77, 3) := by decide +kernel
theorem dX3_loss_15 : decode cX3_loss 15 = .ok (.iload_n 3, 1) := by decide +kernel
theorem dX3_loss_16 : decode cX3_loss 16 = .ok (.ifCond .le 73, 3) := by decide +kernel
theorem dX3_loss_19 : decode cX3_loss 19 = .ok (.aload_n 0, 1) := by decide +kernel
theorem dX3_loss_20 : decode cX3_loss 20 = .ok (.getfield 7, 3) := by decide +kernel
theorem dX3_loss_23 : decode cX3_loss 23 = .ok (.iconst 2, 1) := by decide +kernel
theorem dX3_loss_24 : decode cX3_loss 24 = .ok (.iaload, 1) := by decide +kernel
theorem dX3_loss_25 : decode cX3_loss 25 = .ok (.iload 5, 2) := by decide +kernel
theorem dX3_loss_27 : decode cX3_loss 27 = .ok (.iadd, 1) := by decide +kernel
theorem dX3_loss_28 : decode cX3_loss 28 = .ok (.bipush 32, 2) := by decide +kernel
theorem dX3_loss_30 : decode cX3_loss 30 = .ok (.irem, 1) := by decide +kernel
theorem dX3_loss_31 : decode cX3_loss 31 = .ok (.istore 6, 2) := by decide +kernel
theorem dX3_loss_33 : decode cX3_loss 33 = .ok (.aload_n 0, 1) := by decide +kernel
theorem dX3_loss_34 : decode cX3_loss 34 = .ok (.iload 6, 2) := by decide +kernel
theorem dX3_loss_36 : decode cX3_loss 36 = .ok (.invokevirtual 28, 3) := by decide +kernel
theorem dX3_loss_39 : decode cX3_loss 39 = .ok (.istore 7, 2) := by decide +kernel
theorem dX3_loss_41 : decode cX3_loss 41 = .ok (.iload_n 3, 1) := by decide +kernel
theorem dX3_loss_42 : decode cX3_loss 42 = .ok (.iload 7, 2) := by decide +kernel
theorem dX3_loss_44 : decode cX3_loss 44 = .ok (.ifCond .eq 7, 3) := by decide +kernel
theorem dX3_loss_47 : decode cX3_loss 47 = .ok (.iconst 1, 1) := by decide +kernel
theorem dX3_loss_48 : decode cX3_loss 48 = .ok (.goto 4, 3) := by decide +kernel
theorem dX3_loss_51 : decode cX3_loss 51 = .ok (.iconst 0, 1) := by decide +kernel
theorem dX3_loss_52 : decode cX3_loss 52 = .ok (.isub, 1) := by decide +kernel
theorem dX3_loss_53 : decode cX3_loss 53 = .ok (.istore_n 3, 1) := by decide +kernel
theorem dX3_loss_54 : decode cX3_loss 54 = .ok (.iload 4, 2) := by decide +kernel
theorem dX3_loss_56 : decode cX3_loss 56 = .ok (.iload 7, 2) := by decide +kernel
theorem dX3_loss_58 : decode cX3_loss 58 = .ok (.ifCond .eq 21, 3) := by decide +kernel
theorem dX3_loss_61 : decode cX3_loss 61 = .ok (.aload_n 0, 1) := by decide +kernel
theorem dX3_loss_62 : decode cX3_loss 62 = .ok (.getfield 7, 3) := by decide +kernel
theorem dX3_loss_65 : decode cX3_loss 65 = .ok (.bipush 27, 2) := by decide +kernel
theorem dX3_loss_67 : decode cX3_loss 67 = .ok (.iload 6, 2) := by decide +kernel
theorem dX3_loss_69 : decode cX3_loss 69 = .ok (.iadd, 1) := by decide +kernel
theorem dX3_loss_70 : decode cX3_loss 70 = .ok (.iaload, 1) := by decide +kernel
theorem dX3_loss_71 : decode cX3_loss 71 = .ok (.iload_n 1, 1) := by decide +kernel
theorem dX3_loss_72 : decode cX3_loss 72 = .ok (.if_icmp .ne 7, 3) := by decide +kernel
theorem dX3_loss_75 : decode cX3_loss 75 = .ok (.iconst 1, 1) := by decide +kernel
theorem dX3_loss_76 : decode cX3_loss 76 = .ok (.goto 4, 3) := by decide +kernel
theorem dX3_loss_79 : decode cX3_loss 79 = .ok (.iconst 0, 1) := by decide +kernel
theorem dX3_loss_80 : decode cX3_loss 80 = .ok (.iadd, 1) := by decide +kernel
theorem dX3_loss_81 : decode cX3_loss 81 = .ok (.istore 4, 2) := by decide +kernel
theorem dX3_loss_83 : decode cX3_loss 83 = .ok (.iinc 5 1, 3) := by decide +kernel
theorem dX3_loss_86 : decode cX3_loss 86 = .ok (.goto (-78), 3) := by decide +kernel
theorem dX3_loss_89 : decode cX3_loss 89 = .ok (.iload 4, 2) := by decide +kernel
theorem dX3_loss_91 : decode cX3_loss 91 = .ok (.ireturn, 1) := by decide +kernel
theorem dX3_lossOf_0 : decode cX3_lossOf 0 = .ok (.aload_n 0, 1) := by decide +kernel
theorem dX3_lossOf_1 : decode cX3_lossOf 1 = .ok (.aload_n 0, 1) := by decide +kernel
theorem dX3_lossOf_2 : decode cX3_lossOf 2 = .ok (.iload_n 1, 1) := by decide +kernel
theorem dX3_lossOf_3 : decode cX3_lossOf 3 = .ok (.invokevirtual 82, 3) := by decide +kernel
theorem dX3_lossOf_6 : decode cX3_lossOf 6 = .ok (.ifCond .ne 7, 3) := by decide +kernel
theorem dX3_lossOf_9 : decode cX3_lossOf 9 = .ok (.iconst 1, 1) := by decide +kernel
theorem dX3_lossOf_10 : decode cX3_lossOf 10 = .ok (.goto 18, 3) := by decide +kernel
theorem dX3_lossOf_13 : decode cX3_lossOf 13 = .ok (.iload_n 2, 1) := by decide +kernel
theorem dX3_lossOf_14 : decode cX3_lossOf 14 = .ok (.iconst 1, 1) := by decide +kernel
theorem dX3_lossOf_15 : decode cX3_lossOf 15 = .ok (.bipush 32, 2) := by decide +kernel
theorem dX3_lossOf_17 : decode cX3_lossOf 17 = .ok (.invokestatic 20, 3) := by decide +kernel
theorem dX3_lossOf_20 : decode cX3_lossOf 20 = .ok (.ifCond .ne 7, 3) := by decide +kernel
theorem dX3_lossOf_23 : decode cX3_lossOf 23 = .ok (.iconst 2, 1) := by decide +kernel
theorem dX3_lossOf_24 : decode cX3_lossOf 24 = .ok (.goto 4, 3) := by decide +kernel
theorem dX3_lossOf_27 : decode cX3_lossOf 27 = .ok (.iconst 0, 1) := by decide +kernel
theorem dX3_lossOf_28 : decode cX3_lossOf 28 = .ok (.invokevirtual 64, 3) := by decide +kernel
theorem dX3_lossOf_31 : decode cX3_lossOf 31 = .ok (.ifCond .eq 12, 3) := by decide +kernel
theorem dX3_lossOf_34 : decode cX3_lossOf 34 = .ok (.aload_n 0, 1) := by decide +kernel
theorem dX3_lossOf_35 : decode cX3_lossOf 35 = .ok (.iload_n 1, 1) := by decide +kernel
theorem dX3_lossOf_36 : decode cX3_lossOf 36 = .ok (.iload_n 2, 1) := by decide +kernel
theorem dX3_lossOf_37 : decode cX3_lossOf 37 = .ok (.invokevirtual 112, 3) := by decide +kernel
theorem dX3_lossOf_40 : decode cX3_lossOf 40 = .ok (.goto 4, 3) := by decide +kernel
theorem dX3_lossOf_43 : decode cX3_lossOf 43 = .ok (.iconst 0, 1) := by decide +kernel
theorem dX3_lossOf_44 : decode cX3_lossOf 44 = .ok (.ireturn, 1) := by decide +kernel
theorem dX3_goneAfter_0 : decode cX3_goneAfter 0 = .ok (.aload_n 0, 1) := by decide +kernel
theorem dX3_goneAfter_1 : decode cX3_goneAfter 1 = .ok (.iload_n 1, 1) := by decide +kernel
theorem dX3_goneAfter_2 : decode cX3_goneAfter 2 = .ok (.iconst 1, 1) := by decide +kernel
theorem dX3_goneAfter_3 : decode cX3_goneAfter 3 = .ok (.bipush 32, 2) := by decide +kernel
theorem dX3_goneAfter_5 : decode cX3_goneAfter 5 = .ok (.invokestatic 20, 3) := by decide +kernel
theorem dX3_goneAfter_8 : decode cX3_goneAfter 8 = .ok (.ifCond .eq 7, 3) := by decide +kernel
theorem dX3_goneAfter_11 : decode cX3_goneAfter 11 = .ok (.iconst 0, 1) := by decide +kernel
theorem dX3_goneAfter_12 : decode cX3_goneAfter 12 = .ok (.goto 4, 3) := by decide +kernel
theorem dX3_goneAfter_15 : decode cX3_goneAfter 15 = .ok (.iconst 1, 1) := by decide +kernel
theorem dX3_goneAfter_16 : decode cX3_goneAfter 16 = .ok (.invokevirtual 64, 3) := by decide +kernel
theorem dX3_goneAfter_19 : decode cX3_goneAfter 19 = .ok (.ifCond .ne 5, 3) := by decide +kernel
theorem dX3_goneAfter_22 : decode cX3_goneAfter 22 = .ok (.iconst 0, 1) := by decide +kernel
theorem dX3_goneAfter_23 : decode cX3_goneAfter 23 = .ok (.ireturn, 1) := by decide +kernel
theorem dX3_goneAfter_24 : decode cX3_goneAfter 24 = .ok (.iconst 0, 1) := by decide +kernel
theorem dX3_goneAfter_25 : decode cX3_goneAfter 25 = .ok (.istore_n 2, 1) := by decide +kernel
theorem dX3_goneAfter_26 : decode cX3_goneAfter 26 = .ok (.iconst 0, 1) := by decide +kernel
theorem dX3_goneAfter_27 : decode cX3_goneAfter 27 = .ok (.istore_n 3, 1) := by decide +kernel
theorem dX3_goneAfter_28 : decode cX3_goneAfter 28 = .ok (.iload_n 3, 1) := by decide +kernel
theorem dX3_goneAfter_29 : decode cX3_goneAfter 29 = .ok (.aload_n 0, 1) := by decide +kernel
theorem dX3_goneAfter_30 : decode cX3_goneAfter 30 = .ok (.getfield 7, 3) := by decide +kernel
theorem dX3_goneAfter_33 : decode cX3_goneAfter 33 = .ok (.iconst 0, 1) := by decide +kernel
theorem dX3_goneAfter_34 : decode cX3_goneAfter 34 = .ok (.iaload, 1) := by decide +kernel
theorem dX3_goneAfter_35 : decode cX3_goneAfter 35 = .ok (.if_icmp .ge 40, 3) := by decide +kernel
theorem dX3_goneAfter_38 : decode cX3_goneAfter 38 = .ok (.aload_n 0, 1) := by decide +kernel
theorem dX3_goneAfter_39 : decode cX3_goneAfter 39 = .ok (.iload_n 3, 1) := by decide +kernel
theorem dX3_goneAfter_40 : decode cX3_goneAfter 40 = .ok (.iload_n 1, 1) := by decide +kernel
theorem dX3_goneAfter_41 : decode cX3_goneAfter 41 = .ok (.invokevirtual 112, 3) := by decide +kernel
theorem dX3_goneAfter_44 : decode cX3_goneAfter 44 = .ok (.istore 4, 2) := by decide +kernel
theorem dX3_goneAfter_46 : decode cX3_goneAfter 46 = .ok (.iload_n 2, 1) := by decide +kernel
theorem dX3_goneAfter_47 : decode cX3_goneAfter 47 = .ok (.iload 4, 2) := by decide +kernel
theorem dX3_goneAfter_49 : decode cX3_goneAfter 49 = .ok (.ifCond .le 17, 3) := by decide +kernel
theorem dX3_goneAfter_52 : decode cX3_goneAfter 52 = .ok (.iload 4, 2) := by decide +kernel
theorem dX3_goneAfter_54 : decode cX3_goneAfter 54 = .ok (.aload_n 0, 1) := by decide +kernel
theorem dX3_goneAfter_55 : decode cX3_goneAfter 55 = .ok (.iload_n 3, 1) := by decide +kernel
theorem dX3_goneAfter_56 : decode cX3_goneAfter 56 = .ok (.invokevirtual 32, 3) := by decide +kernel
theorem dX3_goneAfter_59 : decode cX3_goneAfter 59 = .ok (.if_icmp .ne 7, 3) := by decide +kernel
theorem dX3_goneAfter_62 : decode cX3_goneAfter 62 = .ok (.iconst 1, 1) := by decide +kernel
theorem dX3_goneAfter_63 : decode cX3_goneAfter 63 = .ok (.goto 4, 3) := by decide +kernel
theorem dX3_goneAfter_66 : decode cX3_goneAfter 66 = .ok (.iconst 0, 1) := by decide +kernel
theorem dX3_goneAfter_67 : decode cX3_goneAfter 67 = .ok (.iadd, 1) := by decide +kernel
theorem dX3_goneAfter_68 : decode cX3_goneAfter 68 = .ok (.istore_n 2, 1) := by decide +kernel
theorem dX3_goneAfter_69 : decode cX3_goneAfter 69 = .ok (.iinc 3 1, 3) := by decide +kernel
theorem dX3_goneAfter_72 : decode cX3_goneAfter 72 = .ok (.goto (-44), 3) := by decide +kernel
theorem dX3_goneAfter_75 : decode cX3_goneAfter 75 = .ok (.iload_n 2, 1) := by decide +kernel
theorem dX3_goneAfter_76 : decode cX3_goneAfter 76 = .ok (.ireturn, 1) := by decide +kernel
theorem dX3_append_0 : decode cX3_append 0 = .ok (.aload_n 0, 1) := by decide +kernel
theorem dX3_append_1 : decode cX3_append 1 = .ok (.iload_n 1, 1) := by decide +kernel
theorem dX3_append_2 : decode cX3_append 2 = .ok (.bipush 33, 2) := by decide +kernel
theorem dX3_append_4 : decode cX3_append 4 = .ok (.bipush 126, 2) := by decide +kernel
theorem dX3_append_6 : decode cX3_append 6 = .ok (.invokestatic 20, 3) := by decide +kernel
theorem dX3_append_9 : decode cX3_append 9 = .ok (.ifCond .ne 7, 3) := by decide +kernel
theorem dX3_append_12 : decode cX3_append 12 = .ok (.iconst 1, 1) := by decide +kernel
theorem dX3_append_13 : decode cX3_append 13 = .ok (.goto 17, 3) := by decide +kernel
theorem dX3_append_16 : decode cX3_append 16 = .ok (.aload_n 0, 1) := by decide +kernel
theorem dX3_append_17 : decode cX3_append 17 = .ok (.getfield 115, 3) := by decide +kernel
theorem dX3_append_20 : decode cX3_append 20 = .ok (.bipush 60, 2) := by decide +kernel
theorem dX3_append_22 : decode cX3_append 22 = .ok (.if_icmp .ne 7, 3) := by decide +kernel
theorem dX3_append_25 : decode cX3_append 25 = .ok (.iconst 2, 1) := by decide +kernel
theorem dX3_append_26 : decode cX3_append 26 = .ok (.goto 4, 3) := by decide +kernel
theorem dX3_append_29 : decode cX3_append 29 = .ok (.iconst 0, 1) := by decide +kernel
theorem dX3_append_30 : decode cX3_append 30 = .ok (.invokevirtual 64, 3) := by decide +kernel
theorem dX3_append_33 : decode cX3_append 33 = .ok (.ifCond .ne 5, 3) := by decide +kernel
theorem dX3_append_36 : decode cX3_append 36 = .ok (.iconst 0, 1) := by decide +kernel
theorem dX3_append_37 : decode cX3_append 37 = .ok (.ireturn, 1) := by decide +kernel
theorem dX3_append_38 : decode cX3_append 38 = .ok (.aload_n 0, 1) := by decide +kernel
theorem dX3_append_39 : decode cX3_append 39 = .ok (.getfield 13, 3) := by decide +kernel
theorem dX3_append_42 : decode cX3_append 42 = .ok (.aload_n 0, 1) := by decide +kernel
theorem dX3_append_43 : decode cX3_append 43 = .ok (.getfield 115, 3) := by decide +kernel
theorem dX3_append_46 : decode cX3_append 46 = .ok (.iload_n 1, 1) := by decide +kernel
theorem dX3_append_47 : decode cX3_append 47 = .ok (.iastore, 1) := by decide +kernel
theorem dX3_append_48 : decode cX3_append 48 = .ok (.aload_n 0, 1) := by decide +kernel
theorem dX3_append_49 : decode cX3_append 49 = .ok (.dup, 1) := by decide +kernel
theorem dX3_append_50 : decode cX3_append 50 = .ok (.getfield 115, 3) := by decide +kernel
theorem dX3_append_53 : decode cX3_append 53 = .ok (.iconst 1, 1) := by decide +kernel
theorem dX3_append_54 : decode cX3_append 54 = .ok (.iadd, 1) := by decide +kernel
theorem dX3_append_55 : decode cX3_append 55 = .ok (.putfield 115, 3) := by decide +kernel
theorem dX3_append_58 : decode cX3_append 58 = .ok (.aload_n 0, 1) := by decide +kernel
theorem dX3_append_59 : decode cX3_append 59 = .ok (.getfield 115, 3) := by decide +kernel
theorem dX3_append_62 : decode cX3_append 62 = .ok (.ireturn, 1) := by decide +kernel
theorem dX3_clearText_0 : decode cX3_clearText 0 = .ok (.aload_n 0, 1) := by decide +kernel
theorem dX3_clearText_1 : decode cX3_clearText 1 = .ok (.iconst 0, 1) := by decide +kernel
theorem dX3_clearText_2 : decode cX3_clearText 2 = .ok (.putfield 16, 3) := by decide +kernel
theorem dX3_clearText_5 : decode cX3_clearText 5 = .ok (.aload_n 0, 1) := by decide +kernel
theorem dX3_clearText_6 : decode cX3_clearText 6 = .ok (.getfield 115, 3) := by decide +kernel
theorem dX3_clearText_9 : decode cX3_clearText 9 = .ok (.istore_n 1, 1) := by decide +kernel
theorem dX3_clearText_10 : decode cX3_clearText 10 = .ok (.aload_n 0, 1) := by decide +kernel
theorem dX3_clearText_11 : decode cX3_clearText 11 = .ok (.iconst 0, 1) := by decide +kernel
theorem dX3_clearText_12 : decode cX3_clearText 12 = .ok (.putfield 115, 3) := by decide +kernel
theorem dX3_clearText_15 : decode cX3_clearText 15 = .ok (.iload_n 1, 1) := by decide +kernel
theorem dX3_clearText_16 : decode cX3_clearText 16 = .ok (.ireturn, 1) := by decide +kernel
theorem dX3_sign_0 : decode cX3_sign 0 = .ok (.aload_n 0, 1) := by decide +kernel
theorem dX3_sign_1 : decode cX3_sign 1 = .ok (.getfield 118, 3) := by decide +kernel
theorem dX3_sign_4 : decode cX3_sign 4 = .ok (.aload_n 0, 1) := by decide +kernel
theorem dX3_sign_5 : decode cX3_sign 5 = .ok (.getfield 115, 3) := by decide +kernel
theorem dX3_sign_8 : decode cX3_sign 8 = .ok (.if_icmp .ge 15, 3) := by decide +kernel
theorem dX3_sign_11 : decode cX3_sign 11 = .ok (.aload_n 0, 1) := by decide +kernel
theorem dX3_sign_12 : decode cX3_sign 12 = .ok (.getfield 13, 3) := by decide +kernel
theorem dX3_sign_15 : decode cX3_sign 15 = .ok (.aload_n 0, 1) := by decide +kernel
theorem dX3_sign_16 : decode cX3_sign 16 = .ok (.getfield 118, 3) := by decide +kernel
theorem dX3_sign_19 : decode cX3_sign 19 = .ok (.iaload, 1) := by decide +kernel
theorem dX3_sign_20 : decode cX3_sign 20 = .ok (.goto 4, 3) := by decide +kernel
theorem dX3_sign_23 : decode cX3_sign 23 = .ok (.iconst 0, 1) := by decide +kernel
theorem dX3_sign_24 : decode cX3_sign 24 = .ok (.ireturn, 1) := by decide +kernel
theorem dX3_takes_0 : decode cX3_takes 0 = .ok (.aload_n 0, 1) := by decide +kernel
theorem dX3_takes_1 : decode cX3_takes 1 = .ok (.invokevirtual 121, 3) := by decide +kernel
theorem dX3_takes_4 : decode cX3_takes 4 = .ok (.iload_n 1, 1) := by decide +kernel
theorem dX3_takes_5 : decode cX3_takes 5 = .ok (.if_icmp .ne 7, 3) := by decide +kernel
theorem dX3_takes_8 : decode cX3_takes 8 = .ok (.iconst 1, 1) := by decide +kernel
theorem dX3_takes_9 : decode cX3_takes 9 = .ok (.goto 4, 3) := by decide +kernel
theorem dX3_takes_12 : decode cX3_takes 12 = .ok (.iconst 0, 1) := by decide +kernel
theorem dX3_takes_13 : decode cX3_takes 13 = .ok (.istore_n 2, 1) := by decide +kernel
theorem dX3_takes_14 : decode cX3_takes 14 = .ok (.aload_n 0, 1) := by decide +kernel
theorem dX3_takes_15 : decode cX3_takes 15 = .ok (.dup, 1) := by decide +kernel
theorem dX3_takes_16 : decode cX3_takes 16 = .ok (.getfield 118, 3) := by decide +kernel
theorem dX3_takes_19 : decode cX3_takes 19 = .ok (.iload_n 2, 1) := by decide +kernel
theorem dX3_takes_20 : decode cX3_takes 20 = .ok (.ifCond .eq 7, 3) := by decide +kernel
theorem dX3_takes_23 : decode cX3_takes 23 = .ok (.iconst 1, 1) := by decide +kernel
theorem dX3_takes_24 : decode cX3_takes 24 = .ok (.goto 4, 3) := by decide +kernel
theorem dX3_takes_27 : decode cX3_takes 27 = .ok (.iconst 0, 1) := by decide +kernel
theorem dX3_takes_28 : decode cX3_takes 28 = .ok (.iadd, 1) := by decide +kernel
theorem dX3_takes_29 : decode cX3_takes 29 = .ok (.putfield 118, 3) := by decide +kernel
theorem dX3_takes_32 : decode cX3_takes 32 = .ok (.iload_n 2, 1) := by decide +kernel
theorem dX3_takes_33 : decode cX3_takes 33 = .ok (.ireturn, 1) := by decide +kernel
theorem dX3_number_0 : decode cX3_number 0 = .ok (.aload_n 0, 1) := by decide +kernel
theorem dX3_number_1 : decode cX3_number 1 = .ok (.invokevirtual 121, 3) := by decide +kernel
theorem dX3_number_4 : decode cX3_number 4 = .ok (.bipush 48, 2) := by decide +kernel
theorem dX3_number_6 : decode cX3_number 6 = .ok (.iload_n 1, 1) := by decide +kernel
theorem dX3_number_7 : decode cX3_number 7 = .ok (.iadd, 1) := by decide +kernel
theorem dX3_number_8 : decode cX3_number 8 = .ok (.bipush 57, 2) := by decide +kernel
theorem dX3_number_10 : decode cX3_number 10 = .ok (.invokestatic 20, 3) := by decide +kernel
theorem dX3_number_13 : decode cX3_number 13 = .ok (.ifCond .eq 13, 3) := by decide +kernel
theorem dX3_number_16 : decode cX3_number 16 = .ok (.aload_n 0, 1) := by decide +kernel
theorem dX3_number_17 : decode cX3_number 17 = .ok (.invokevirtual 121, 3) := by decide +kernel
theorem dX3_number_20 : decode cX3_number 20 = .ok (.bipush 48, 2) := by decide +kernel
theorem dX3_number_22 : decode cX3_number 22 = .ok (.isub, 1) := by decide +kernel
theorem dX3_number_23 : decode cX3_number 23 = .ok (.goto 4, 3) := by decide +kernel
theorem dX3_number_26 : decode cX3_number 26 = .ok (.iconst (-1), 1) := by decide +kernel
theorem dX3_number_27 : decode cX3_number 27 = .ok (.istore_n 3, 1) := by decide +kernel
theorem dX3_number_28 : decode cX3_number 28 = .ok (.aload_n 0, 1) := by decide +kernel
theorem dX3_number_29 : decode cX3_number 29 = .ok (.dup, 1) := by decide +kernel
theorem dX3_number_30 : decode cX3_number 30 = .ok (.getfield 118, 3) := by decide +kernel
theorem dX3_number_33 : decode cX3_number 33 = .ok (.iload_n 3, 1) := by decide +kernel
theorem dX3_number_34 : decode cX3_number 34 = .ok (.iconst (-1), 1) := by decide +kernel
theorem dX3_number_35 : decode cX3_number 35 = .ok (.if_icmp .ne 7, 3) := by decide +kernel
theorem dX3_number_38 : decode cX3_number 38 = .ok (.iconst 0, 1) := by decide +kernel
theorem dX3_number_39 : decode cX3_number 39 = .ok (.goto 4, 3) := by decide +kernel
theorem dX3_number_42 : decode cX3_number 42 = .ok (.iconst 1, 1) := by decide +kernel
theorem dX3_number_43 : decode cX3_number 43 = .ok (.iadd, 1) := by decide +kernel
theorem dX3_number_44 : decode cX3_number 44 = .ok (.putfield 118, 3) := by decide +kernel
theorem dX3_number_47 : decode cX3_number 47 = .ok (.iload_n 3, 1) := by decide +kernel
theorem dX3_number_48 : decode cX3_number 48 = .ok (.ifCond .le 59, 3) := by decide +kernel
theorem dX3_number_51 : decode cX3_number 51 = .ok (.aload_n 0, 1) := by decide +kernel
theorem dX3_number_52 : decode cX3_number 52 = .ok (.invokevirtual 121, 3) := by decide +kernel
theorem dX3_number_55 : decode cX3_number 55 = .ok (.bipush 48, 2) := by decide +kernel
theorem dX3_number_57 : decode cX3_number 57 = .ok (.bipush 57, 2) := by decide +kernel
theorem dX3_number_59 : decode cX3_number 59 = .ok (.invokestatic 20, 3) := by decide +kernel
theorem dX3_number_62 : decode cX3_number 62 = .ok (.ifCond .eq 45, 3) := by decide +kernel
theorem dX3_number_65 : decode cX3_number 65 = .ok (.bipush 10, 2) := by decide +kernel
theorem dX3_number_67 : decode cX3_number 67 = .ok (.iload_n 3, 1) := by decide +kernel
theorem dX3_number_68 : decode cX3_number 68 = .ok (.imul, 1) := by decide +kernel
theorem dX3_number_69 : decode cX3_number 69 = .ok (.aload_n 0, 1) := by decide +kernel
theorem dX3_number_70 : decode cX3_number 70 = .ok (.invokevirtual 121, 3) := by decide +kernel
theorem dX3_number_73 : decode cX3_number 73 = .ok (.iadd, 1) := by decide +kernel
theorem dX3_number_74 : decode cX3_number 74 = .ok (.bipush 48, 2) := by decide +kernel
theorem dX3_number_76 : decode cX3_number 76 = .ok (.isub, 1) := by decide +kernel
theorem dX3_number_77 : decode cX3_number 77 = .ok (.iload_n 2, 1) := by decide +kernel
theorem dX3_number_78 : decode cX3_number 78 = .ok (.if_icmp .gt 29, 3) := by decide +kernel
theorem dX3_number_81 : decode cX3_number 81 = .ok (.bipush 10, 2) := by decide +kernel
theorem dX3_number_83 : decode cX3_number 83 = .ok (.iload_n 3, 1) := by decide +kernel
theorem dX3_number_84 : decode cX3_number 84 = .ok (.imul, 1) := by decide +kernel
theorem dX3_number_85 : decode cX3_number 85 = .ok (.aload_n 0, 1) := by decide +kernel
theorem dX3_number_86 : decode cX3_number 86 = .ok (.invokevirtual 121, 3) := by decide +kernel
theorem dX3_number_89 : decode cX3_number 89 = .ok (.iadd, 1) := by decide +kernel
theorem dX3_number_90 : decode cX3_number 90 = .ok (.bipush 48, 2) := by decide +kernel
theorem dX3_number_92 : decode cX3_number 92 = .ok (.isub, 1) := by decide +kernel
theorem dX3_number_93 : decode cX3_number 93 = .ok (.istore_n 3, 1) := by decide +kernel
theorem dX3_number_94 : decode cX3_number 94 = .ok (.aload_n 0, 1) := by decide +kernel
theorem dX3_number_95 : decode cX3_number 95 = .ok (.dup, 1) := by decide +kernel
theorem dX3_number_96 : decode cX3_number 96 = .ok (.getfield 118, 3) := by decide +kernel
theorem dX3_number_99 : decode cX3_number 99 = .ok (.iconst 1, 1) := by decide +kernel
theorem dX3_number_100 : decode cX3_number 100 = .ok (.iadd, 1) := by decide +kernel
theorem dX3_number_101 : decode cX3_number 101 = .ok (.putfield 118, 3) := by decide +kernel
theorem dX3_number_104 : decode cX3_number 104 = .ok (.goto (-57), 3) := by decide +kernel
theorem dX3_number_107 : decode cX3_number 107 = .ok (.iload_n 3, 1) := by decide +kernel
theorem dX3_number_108 : decode cX3_number 108 = .ok (.ireturn, 1) := by decide +kernel
theorem dX3_readsOrder_0 : decode cX3_readsOrder 0 = .ok (.aload_n 0, 1) := by decide +kernel
theorem dX3_readsOrder_1 : decode cX3_readsOrder 1 = .ok (.aload_n 0, 1) := by decide +kernel
theorem dX3_readsOrder_2 : decode cX3_readsOrder 2 = .ok (.invokevirtual 121, 3) := by decide +kernel
theorem dX3_readsOrder_5 : decode cX3_readsOrder 5 = .ok (.putfield 124, 3) := by decide +kernel
theorem dX3_readsOrder_8 : decode cX3_readsOrder 8 = .ok (.aload_n 0, 1) := by decide +kernel
theorem dX3_readsOrder_9 : decode cX3_readsOrder 9 = .ok (.bipush 98, 2) := by decide +kernel
theorem dX3_readsOrder_11 : decode cX3_readsOrder 11 = .ok (.invokevirtual 127, 3) := by decide +kernel
theorem dX3_readsOrder_14 : decode cX3_readsOrder 14 = .ok (.ifCond .ne 21, 3) := by decide +kernel
theorem dX3_readsOrder_17 : decode cX3_readsOrder 17 = .ok (.aload_n 0, 1) := by decide +kernel
theorem dX3_readsOrder_18 : decode cX3_readsOrder 18 = .ok (.bipush 104, 2) := by decide +kernel
theorem dX3_readsOrder_20 : decode cX3_readsOrder 20 = .ok (.invokevirtual 127, 3) := by decide +kernel
theorem dX3_readsOrder_23 : decode cX3_readsOrder 23 = .ok (.ifCond .ne 12, 3) := by decide +kernel
theorem dX3_readsOrder_26 : decode cX3_readsOrder 26 = .ok (.aload_n 0, 1) := by decide +kernel
theorem dX3_readsOrder_27 : decode cX3_readsOrder 27 = .ok (.bipush 112, 2) := by decide +kernel
theorem dX3_readsOrder_29 : decode cX3_readsOrder 29 = .ok (.invokevirtual 127, 3) := by decide +kernel
theorem dX3_readsOrder_32 : decode cX3_readsOrder 32 = .ok (.ifCond .eq 5, 3) := by decide +kernel
theorem dX3_readsOrder_35 : decode cX3_readsOrder 35 = .ok (.iconst 1, 1) := by decide +kernel
theorem dX3_readsOrder_36 : decode cX3_readsOrder 36 = .ok (.ireturn, 1) := by decide +kernel
theorem dX3_readsOrder_37 : decode cX3_readsOrder 37 = .ok (.aload_n 0, 1) := by decide +kernel
theorem dX3_readsOrder_38 : decode cX3_readsOrder 38 = .ok (.bipush 115, 2) := by decide +kernel
theorem dX3_readsOrder_40 : decode cX3_readsOrder 40 = .ok (.invokevirtual 127, 3) := by decide +kernel
theorem dX3_readsOrder_43 : decode cX3_readsOrder 43 = .ok (.ifCond .eq 28, 3) := by decide +kernel
theorem dX3_readsOrder_46 : decode cX3_readsOrder 46 = .ok (.aload_n 0, 1) := by decide +kernel
theorem dX3_readsOrder_47 : decode cX3_readsOrder 47 = .ok (.aload_n 0, 1) := by decide +kernel
theorem dX3_readsOrder_48 : decode cX3_readsOrder 48 = .ok (.iconst 0, 1) := by decide +kernel
theorem dX3_readsOrder_49 : decode cX3_readsOrder 49 = .ok (.bipush 99, 2) := by decide +kernel
theorem dX3_readsOrder_51 : decode cX3_readsOrder 51 = .ok (.invokevirtual 130, 3) := by decide +kernel
theorem dX3_readsOrder_54 : decode cX3_readsOrder 54 = .ok (.putfield 133, 3) := by decide +kernel
theorem dX3_readsOrder_57 : decode cX3_readsOrder 57 = .ok (.aload_n 0, 1) := by decide +kernel
theorem dX3_readsOrder_58 : decode cX3_readsOrder 58 = .ok (.getfield 133, 3) := by decide +kernel
theorem dX3_readsOrder_61 : decode cX3_readsOrder 61 = .ok (.iconst (-1), 1) := by decide +kernel
theorem dX3_readsOrder_62 : decode cX3_readsOrder 62 = .ok (.if_icmp .eq 7, 3) := by decide +kernel
theorem dX3_readsOrder_65 : decode cX3_readsOrder 65 = .ok (.iconst 1, 1) := by decide +kernel
theorem dX3_readsOrder_66 : decode cX3_readsOrder 66 = .ok (.goto 4, 3) := by decide +kernel
theorem dX3_readsOrder_69 : decode cX3_readsOrder 69 = .ok (.iconst 0, 1) := by decide +kernel
theorem dX3_readsOrder_70 : decode cX3_readsOrder 70 = .ok (.ireturn, 1) := by decide +kernel
theorem dX3_readsOrder_71 : decode cX3_readsOrder 71 = .ok (.aload_n 0, 1) := by decide +kernel
theorem dX3_readsOrder_72 : decode cX3_readsOrder 72 = .ok (.bipush 114, 2) := by decide +kernel
theorem dX3_readsOrder_74 : decode cX3_readsOrder 74 = .ok (.invokevirtual 127, 3) := by decide +kernel
theorem dX3_readsOrder_77 : decode cX3_readsOrder 77 = .ok (.ifCond .eq 60, 3) := by decide +kernel
theorem dX3_readsOrder_80 : decode cX3_readsOrder 80 = .ok (.aload_n 0, 1) := by decide +kernel
theorem dX3_readsOrder_81 : decode cX3_readsOrder 81 = .ok (.aload_n 0, 1) := by decide +kernel
theorem dX3_readsOrder_82 : decode cX3_readsOrder 82 = .ok (.iconst 1, 1) := by decide +kernel
theorem dX3_readsOrder_83 : decode cX3_readsOrder 83 = .ok (.bipush 32, 2) := by decide +kernel
theorem dX3_readsOrder_85 : decode cX3_readsOrder 85 = .ok (.invokevirtual 130, 3) := by decide +kernel
theorem dX3_readsOrder_88 : decode cX3_readsOrder 88 = .ok (.putfield 136, 3) := by decide +kernel
theorem dX3_readsOrder_91 : decode cX3_readsOrder 91 = .ok (.aload_n 0, 1) := by decide +kernel
theorem dX3_readsOrder_92 : decode cX3_readsOrder 92 = .ok (.aload_n 0, 1) := by decide +kernel
theorem dX3_readsOrder_93 : decode cX3_readsOrder 93 = .ok (.getfield 136, 3) := by decide +kernel
theorem dX3_readsOrder_96 : decode cX3_readsOrder 96 = .ok (.iconst (-1), 1) := by decide +kernel
theorem dX3_readsOrder_97 : decode cX3_readsOrder 97 = .ok (.if_icmp .eq 22, 3) := by decide +kernel
theorem dX3_readsOrder_100 : decode cX3_readsOrder 100 = .ok (.aload_n 0, 1) := by decide +kernel
theorem dX3_readsOrder_101 : decode cX3_readsOrder 101 = .ok (.bipush 61, 2) := by decide +kernel
theorem dX3_readsOrder_103 : decode cX3_readsOrder 103 = .ok (.invokevirtual 127, 3) := by decide +kernel
theorem dX3_readsOrder_106 : decode cX3_readsOrder 106 = .ok (.ifCond .eq 13, 3) := by decide +kernel
theorem dX3_readsOrder_109 : decode cX3_readsOrder 109 = .ok (.aload_n 0, 1) := by decide +kernel
theorem dX3_readsOrder_110 : decode cX3_readsOrder 110 = .ok (.iconst 0, 1) := by decide +kernel
theorem dX3_readsOrder_111 : decode cX3_readsOrder 111 = .ok (.bipush 99, 2) := by decide +kernel
theorem dX3_readsOrder_113 : decode cX3_readsOrder 113 = .ok (.invokevirtual 130, 3) := by decide +kernel
theorem dX3_readsOrder_116 : decode cX3_readsOrder 116 = .ok (.goto 4, 3) := by decide +kernel
theorem dX3_readsOrder_119 : decode cX3_readsOrder 119 = .ok (.iconst (-1), 1) := by decide +kernel
theorem dX3_readsOrder_120 : decode cX3_readsOrder 120 = .ok (.putfield 133, 3) := by decide +kernel
theorem dX3_readsOrder_123 : decode cX3_readsOrder 123 = .ok (.aload_n 0, 1) := by decide +kernel
theorem dX3_readsOrder_124 : decode cX3_readsOrder 124 = .ok (.getfield 133, 3) := by decide +kernel
theorem dX3_readsOrder_127 : decode cX3_readsOrder 127 = .ok (.iconst (-1), 1) := by decide +kernel
theorem dX3_readsOrder_128 : decode cX3_readsOrder 128 = .ok (.if_icmp .eq 7, 3) := by decide +kernel
theorem dX3_readsOrder_131 : decode cX3_readsOrder 131 = .ok (.iconst 1, 1) := by decide +kernel
theorem dX3_readsOrder_132 : decode cX3_readsOrder 132 = .ok (.goto 4, 3) := by decide +kernel
theorem dX3_readsOrder_135 : decode cX3_readsOrder 135 = .ok (.iconst 0, 1) := by decide +kernel
theorem dX3_readsOrder_136 : decode cX3_readsOrder 136 = .ok (.ireturn, 1) := by decide +kernel
theorem dX3_readsOrder_137 : decode cX3_readsOrder 137 = .ok (.aload_n 0, 1) := by decide +kernel
theorem dX3_readsOrder_138 : decode cX3_readsOrder 138 = .ok (.bipush 107, 2) := by decide +kernel
theorem dX3_readsOrder_140 : decode cX3_readsOrder 140 = .ok (.invokevirtual 127, 3) := by decide +kernel
theorem dX3_readsOrder_143 : decode cX3_readsOrder 143 = .ok (.ifCond .eq 28, 3) := by decide +kernel
theorem dX3_readsOrder_146 : decode cX3_readsOrder 146 = .ok (.aload_n 0, 1) := by decide +kernel
theorem dX3_readsOrder_147 : decode cX3_readsOrder 147 = .ok (.aload_n 0, 1) := by decide +kernel
theorem dX3_readsOrder_148 : decode cX3_readsOrder 148 = .ok (.iconst 1, 1) := by decide +kernel
theorem dX3_readsOrder_149 : decode cX3_readsOrder 149 = .ok (.bipush 9, 2) := by decide +kernel
theorem dX3_readsOrder_151 : decode cX3_readsOrder 151 = .ok (.invokevirtual 130, 3) := by decide +kernel
theorem dX3_readsOrder_154 : decode cX3_readsOrder 154 = .ok (.putfield 136, 3) := by decide +kernel
theorem dX3_readsOrder_157 : decode cX3_readsOrder 157 = .ok (.aload_n 0, 1) := by decide +kernel
theorem dX3_readsOrder_158 : decode cX3_readsOrder 158 = .ok (.getfield 136, 3) := by decide +kernel
theorem dX3_readsOrder_161 : decode cX3_readsOrder 161 = .ok (.iconst (-1), 1) := by decide +kernel
theorem dX3_readsOrder_162 : decode cX3_readsOrder 162 = .ok (.if_icmp .eq 7, 3) := by decide +kernel
theorem dX3_readsOrder_165 : decode cX3_readsOrder 165 = .ok (.iconst 1, 1) := by decide +kernel
theorem dX3_readsOrder_166 : decode cX3_readsOrder 166 = .ok (.goto 4, 3) := by decide +kernel
theorem dX3_readsOrder_169 : decode cX3_readsOrder 169 = .ok (.iconst 0, 1) := by decide +kernel
theorem dX3_readsOrder_170 : decode cX3_readsOrder 170 = .ok (.ireturn, 1) := by decide +kernel
theorem dX3_readsOrder_171 : decode cX3_readsOrder 171 = .ok (.aload_n 0, 1) := by decide +kernel
theorem dX3_readsOrder_172 : decode cX3_readsOrder 172 = .ok (.aload_n 0, 1) := by decide +kernel
theorem dX3_readsOrder_173 : decode cX3_readsOrder 173 = .ok (.bipush 102, 2) := by decide +kernel
theorem dX3_readsOrder_175 : decode cX3_readsOrder 175 = .ok (.invokevirtual 127, 3) := by decide +kernel
theorem dX3_readsOrder_178 : decode cX3_readsOrder 178 = .ok (.ifCond .ne 30, 3) := by decide +kernel
theorem dX3_readsOrder_181 : decode cX3_readsOrder 181 = .ok (.aload_n 0, 1) := by decide +kernel
theorem dX3_readsOrder_182 : decode cX3_readsOrder 182 = .ok (.bipush 117, 2) := by decide +kernel
theorem dX3_readsOrder_184 : decode cX3_readsOrder 184 = .ok (.invokevirtual 127, 3) := by decide +kernel
theorem dX3_readsOrder_187 : decode cX3_readsOrder 187 = .ok (.ifCond .ne 21, 3) := by decide +kernel
theorem dX3_readsOrder_190 : decode cX3_readsOrder 190 = .ok (.aload_n 0, 1) := by decide +kernel
theorem dX3_readsOrder_191 : decode cX3_readsOrder 191 = .ok (.bipush 101, 2) := by decide +kernel
theorem dX3_readsOrder_193 : decode cX3_readsOrder 193 = .ok (.invokevirtual 127, 3) := by decide +kernel
theorem dX3_readsOrder_196 : decode cX3_readsOrder 196 = .ok (.ifCond .ne 12, 3) := by decide +kernel
theorem dX3_readsOrder_199 : decode cX3_readsOrder 199 = .ok (.aload_n 0, 1) := by decide +kernel
theorem dX3_readsOrder_200 : decode cX3_readsOrder 200 = .ok (.bipush 103, 2) := by decide +kernel
theorem dX3_readsOrder_202 : decode cX3_readsOrder 202 = .ok (.invokevirtual 127, 3) := by decide +kernel
theorem dX3_readsOrder_205 : decode cX3_readsOrder 205 = .ok (.ifCond .eq 13, 3) := by decide +kernel
theorem dX3_readsOrder_208 : decode cX3_readsOrder 208 = .ok (.aload_n 0, 1) := by decide +kernel
theorem dX3_readsOrder_209 : decode cX3_readsOrder 209 = .ok (.iconst 0, 1) := by decide +kernel
theorem dX3_readsOrder_210 : decode cX3_readsOrder 210 = .ok (.bipush 9, 2) := by decide +kernel
theorem dX3_readsOrder_212 : decode cX3_readsOrder 212 = .ok (.invokevirtual 130, 3) := by decide +kernel
theorem dX3_readsOrder_215 : decode cX3_readsOrder 215 = .ok (.goto 4, 3) := by decide +kernel
theorem dX3_readsOrder_218 : decode cX3_readsOrder 218 = .ok (.iconst (-1), 1) := by decide +kernel
theorem dX3_readsOrder_219 : decode cX3_readsOrder 219 = .ok (.putfield 136, 3) := by decide +kernel
theorem dX3_readsOrder_222 : decode cX3_readsOrder 222 = .ok (.aload_n 0, 1) := by decide +kernel
theorem dX3_readsOrder_223 : decode cX3_readsOrder 223 = .ok (.getfield 136, 3) := by decide +kernel
theorem dX3_readsOrder_226 : decode cX3_readsOrder 226 = .ok (.iconst (-1), 1) := by decide +kernel
theorem dX3_readsOrder_227 : decode cX3_readsOrder 227 = .ok (.if_icmp .eq 7, 3) := by decide +kernel
theorem dX3_readsOrder_230 : decode cX3_readsOrder 230 = .ok (.iconst 1, 1) := by decide +kernel
theorem dX3_readsOrder_231 : decode cX3_readsOrder 231 = .ok (.goto 4, 3) := by decide +kernel
theorem dX3_readsOrder_234 : decode cX3_readsOrder 234 = .ok (.iconst 0, 1) := by decide +kernel
theorem dX3_readsOrder_235 : decode cX3_readsOrder 235 = .ok (.ireturn, 1) := by decide +kernel
theorem dX3_areOrders_0 : decode cX3_areOrders 0 = .ok (.aload_n 0, 1) := by decide +kernel
theorem dX3_areOrders_1 : decode cX3_areOrders 1 = .ok (.iconst 0, 1) := by decide +kernel
theorem dX3_areOrders_2 : decode cX3_areOrders 2 = .ok (.putfield 118, 3) := by decide +kernel
theorem dX3_areOrders_5 : decode cX3_areOrders 5 = .ok (.aload_n 0, 1) := by decide +kernel
theorem dX3_areOrders_6 : decode cX3_areOrders 6 = .ok (.invokevirtual 139, 3) := by decide +kernel
theorem dX3_areOrders_9 : decode cX3_areOrders 9 = .ok (.ifCond .eq 27, 3) := by decide +kernel
theorem dX3_areOrders_12 : decode cX3_areOrders 12 = .ok (.aload_n 0, 1) := by decide +kernel
theorem dX3_areOrders_13 : decode cX3_areOrders 13 = .ok (.getfield 118, 3) := by decide +kernel
theorem dX3_areOrders_16 : decode cX3_areOrders 16 = .ok (.aload_n 0, 1) := by decide +kernel
theorem dX3_areOrders_17 : decode cX3_areOrders 17 = .ok (.getfield 115, 3) := by decide +kernel
theorem dX3_areOrders_20 : decode cX3_areOrders 20 = .ok (.if_icmp .ne 5, 3) := by decide +kernel
theorem dX3_areOrders_23 : decode cX3_areOrders 23 = .ok (.iconst 1, 1) := by decide +kernel
theorem dX3_areOrders_24 : decode cX3_areOrders 24 = .ok (.ireturn, 1) := by decide +kernel
theorem dX3_areOrders_25 : decode cX3_areOrders 25 = .ok (.aload_n 0, 1) := by decide +kernel
theorem dX3_areOrders_26 : decode cX3_areOrders 26 = .ok (.bipush 59, 2) := by decide +kernel
theorem dX3_areOrders_28 : decode cX3_areOrders 28 = .ok (.invokevirtual 127, 3) := by decide +kernel
theorem dX3_areOrders_31 : decode cX3_areOrders 31 = .ok (.ifCond .ne (-26), 3) := by decide +kernel
theorem dX3_areOrders_34 : decode cX3_areOrders 34 = .ok (.iconst 0, 1) := by decide +kernel
theorem dX3_areOrders_35 : decode cX3_areOrders 35 = .ok (.ireturn, 1) := by decide +kernel
theorem dX3_areOrders_36 : decode cX3_areOrders 36 = .ok (.iconst 0, 1) := by decide +kernel
theorem dX3_areOrders_37 : decode cX3_areOrders 37 = .ok (.ireturn, 1) := by decide +kernel
theorem dX3_firstError_0 : decode cX3_firstError 0 = .ok (.aload_n 0, 1) := by decide +kernel
theorem dX3_firstError_1 : decode cX3_firstError 1 = .ok (.iconst 0, 1) := by decide +kernel
theorem dX3_firstError_2 : decode cX3_firstError 2 = .ok (.putfield 16, 3) := by decide +kernel
theorem dX3_firstError_5 : decode cX3_firstError 5 = .ok (.aload_n 0, 1) := by decide +kernel
theorem dX3_firstError_6 : decode cX3_firstError 6 = .ok (.invokevirtual 142, 3) := by decide +kernel
theorem dX3_firstError_9 : decode cX3_firstError 9 = .ok (.pop, 1) := by decide +kernel
theorem dX3_firstError_10 : decode cX3_firstError 10 = .ok (.aload_n 0, 1) := by decide +kernel
theorem dX3_firstError_11 : decode cX3_firstError 11 = .ok (.getfield 118, 3) := by decide +kernel
theorem dX3_firstError_14 : decode cX3_firstError 14 = .ok (.ireturn, 1) := by decide +kernel
theorem dX3_can_0 : decode cX3_can 0 = .ok (.aload_n 0, 1) := by decide +kernel
theorem dX3_can_1 : decode cX3_can 1 = .ok (.getfield 124, 3) := by decide +kernel
theorem dX3_can_4 : decode cX3_can 4 = .ok (.tableswitch 172 98 115 #[88, 172, 172, 124, 172, 172, 93, 172, 172, 156, 172, 172, 172, 172, 156, 172, 115, 109], 88) := by decide +kernel
theorem dX3_can_92 : decode cX3_can 92 = .ok (.aload_n 0, 1) := by decide +kernel
theorem dX3_can_93 : decode cX3_can 93 = .ok (.invokevirtual 60, 3) := by decide +kernel
theorem dX3_can_96 : decode cX3_can 96 = .ok (.ireturn, 1) := by decide +kernel
theorem dX3_can_97 : decode cX3_can 97 = .ok (.aload_n 0, 1) := by decide +kernel
theorem dX3_can_98 : decode cX3_can 98 = .ok (.getfield 7, 3) := by decide +kernel
theorem dX3_can_101 : decode cX3_can 101 = .ok (.iconst 1, 1) := by decide +kernel
theorem dX3_can_102 : decode cX3_can 102 = .ok (.iaload, 1) := by decide +kernel
theorem dX3_can_103 : decode cX3_can 103 = .ok (.iconst (-1), 1) := by decide +kernel
theorem dX3_can_104 : decode cX3_can 104 = .ok (.if_icmp .eq 7, 3) := by decide +kernel
theorem dX3_can_107 : decode cX3_can 107 = .ok (.iconst 1, 1) := by decide +kernel
theorem dX3_can_108 : decode cX3_can 108 = .ok (.goto 4, 3) := by decide +kernel
theorem dX3_can_111 : decode cX3_can 111 = .ok (.iconst 0, 1) := by decide +kernel
theorem dX3_can_112 : decode cX3_can 112 = .ok (.ireturn, 1) := by decide +kernel
theorem dX3_can_113 : decode cX3_can 113 = .ok (.aload_n 0, 1) := by decide +kernel
theorem dX3_can_114 : decode cX3_can 114 = .ok (.iconst 1, 1) := by decide +kernel
theorem dX3_can_115 : decode cX3_can 115 = .ok (.invokevirtual 76, 3) := by decide +kernel
theorem dX3_can_118 : decode cX3_can 118 = .ok (.ireturn, 1) := by decide +kernel
theorem dX3_can_119 : decode cX3_can 119 = .ok (.aload_n 0, 1) := by decide +kernel
theorem dX3_can_120 : decode cX3_can 120 = .ok (.aload_n 0, 1) := by decide +kernel
theorem dX3_can_121 : decode cX3_can 121 = .ok (.getfield 136, 3) := by decide +kernel
theorem dX3_can_124 : decode cX3_can 124 = .ok (.invokevirtual 76, 3) := by decide +kernel
theorem dX3_can_127 : decode cX3_can 127 = .ok (.ireturn, 1) := by decide +kernel
theorem dX3_can_128 : decode cX3_can 128 = .ok (.aload_n 0, 1) := by decide +kernel
theorem dX3_can_129 : decode cX3_can 129 = .ok (.aload_n 0, 1) := by decide +kernel
theorem dX3_can_130 : decode cX3_can 130 = .ok (.getfield 136, 3) := by decide +kernel
theorem dX3_can_133 : decode cX3_can 133 = .ok (.invokevirtual 82, 3) := by decide +kernel
theorem dX3_can_136 : decode cX3_can 136 = .ok (.ifCond .eq 22, 3) := by decide +kernel
theorem dX3_can_139 : decode cX3_can 139 = .ok (.aload_n 0, 1) := by decide +kernel
theorem dX3_can_140 : decode cX3_can 140 = .ok (.getfield 7, 3) := by decide +kernel
theorem dX3_can_143 : decode cX3_can 143 = .ok (.bipush 7, 2) := by decide +kernel
theorem dX3_can_145 : decode cX3_can 145 = .ok (.aload_n 0, 1) := by decide +kernel
theorem dX3_can_146 : decode cX3_can 146 = .ok (.getfield 136, 3) := by decide +kernel
theorem dX3_can_149 : decode cX3_can 149 = .ok (.iadd, 1) := by decide +kernel
theorem dX3_can_150 : decode cX3_can 150 = .ok (.iaload, 1) := by decide +kernel
theorem dX3_can_151 : decode cX3_can 151 = .ok (.ifCond .ne 7, 3) := by decide +kernel
theorem dX3_can_154 : decode cX3_can 154 = .ok (.iconst 1, 1) := by decide +kernel
theorem dX3_can_155 : decode cX3_can 155 = .ok (.goto 4, 3) := by decide +kernel
theorem dX3_can_158 : decode cX3_can 158 = .ok (.iconst 0, 1) := by decide +kernel
theorem dX3_can_159 : decode cX3_can 159 = .ok (.ireturn, 1) := by decide +kernel
theorem dX3_can_160 : decode cX3_can 160 = .ok (.aload_n 0, 1) := by decide +kernel
theorem dX3_can_161 : decode cX3_can 161 = .ok (.getfield 7, 3) := by decide +kernel
theorem dX3_can_164 : decode cX3_can 164 = .ok (.iconst 5, 1) := by decide +kernel
theorem dX3_can_165 : decode cX3_can 165 = .ok (.iaload, 1) := by decide +kernel
theorem dX3_can_166 : decode cX3_can 166 = .ok (.iconst (-1), 1) := by decide +kernel
theorem dX3_can_167 : decode cX3_can 167 = .ok (.if_icmp .eq 7, 3) := by decide +kernel
theorem dX3_can_170 : decode cX3_can 170 = .ok (.iconst 1, 1) := by decide +kernel
theorem dX3_can_171 : decode cX3_can 171 = .ok (.goto 4, 3) := by decide +kernel
theorem dX3_can_174 : decode cX3_can 174 = .ok (.iconst 0, 1) := by decide +kernel
theorem dX3_can_175 : decode cX3_can 175 = .ok (.ireturn, 1) := by decide +kernel
theorem dX3_can_176 : decode cX3_can 176 = .ok (.aload_n 0, 1) := by decide +kernel
theorem dX3_can_177 : decode cX3_can 177 = .ok (.aload_n 0, 1) := by decide +kernel
theorem dX3_can_178 : decode cX3_can 178 = .ok (.getfield 136, 3) := by decide +kernel
theorem dX3_can_181 : decode cX3_can 181 = .ok (.invokevirtual 82, 3) := by decide +kernel
theorem dX3_can_184 : decode cX3_can 184 = .ok (.ireturn, 1) := by decide +kernel
theorem dX3_does_0 : decode cX3_does 0 = .ok (.aload_n 0, 1) := by decide +kernel
theorem dX3_does_1 : decode cX3_does 1 = .ok (.getfield 124, 3) := by decide +kernel
theorem dX3_does_4 : decode cX3_does 4 = .ok (.tableswitch 187 98 115 #[88, 187, 187, 144, 187, 175, 96, 187, 187, 163, 187, 187, 187, 187, 155, 187, 116, 104], 88) := by decide +kernel
theorem dX3_does_92 : decode cX3_does 92 = .ok (.aload_n 0, 1) := by decide +kernel
theorem dX3_does_93 : decode cX3_does 93 = .ok (.invokevirtual 70, 3) := by decide +kernel
theorem dX3_does_96 : decode cX3_does 96 = .ok (.pop, 1) := by decide +kernel
theorem dX3_does_97 : decode cX3_does 97 = .ok (.goto 120, 3) := by decide +kernel
theorem dX3_does_100 : decode cX3_does 100 = .ok (.aload_n 0, 1) := by decide +kernel
theorem dX3_does_101 : decode cX3_does 101 = .ok (.invokevirtual 42, 3) := by decide +kernel
theorem dX3_does_104 : decode cX3_does 104 = .ok (.pop, 1) := by decide +kernel
theorem dX3_does_105 : decode cX3_does 105 = .ok (.goto 112, 3) := by decide +kernel
theorem dX3_does_108 : decode cX3_does 108 = .ok (.aload_n 0, 1) := by decide +kernel
theorem dX3_does_109 : decode cX3_does 109 = .ok (.aload_n 0, 1) := by decide +kernel
theorem dX3_does_110 : decode cX3_does 110 = .ok (.getfield 133, 3) := by decide +kernel
theorem dX3_does_113 : decode cX3_does 113 = .ok (.invokevirtual 79, 3) := by decide +kernel
theorem dX3_does_116 : decode cX3_does 116 = .ok (.pop, 1) := by decide +kernel
theorem dX3_does_117 : decode cX3_does 117 = .ok (.goto 100, 3) := by decide +kernel
theorem dX3_does_120 : decode cX3_does 120 = .ok (.iconst 0, 1) := by decide +kernel
theorem dX3_does_121 : decode cX3_does 121 = .ok (.istore_n 1, 1) := by decide +kernel
theorem dX3_does_122 : decode cX3_does 122 = .ok (.iload_n 1, 1) := by decide +kernel
theorem dX3_does_123 : decode cX3_does 123 = .ok (.aload_n 0, 1) := by decide +kernel
theorem dX3_does_124 : decode cX3_does 124 = .ok (.getfield 136, 3) := by decide +kernel
theorem dX3_does_127 : decode cX3_does 127 = .ok (.if_icmp .ge 18, 3) := by decide +kernel
theorem dX3_does_130 : decode cX3_does 130 = .ok (.aload_n 0, 1) := by decide +kernel
theorem dX3_does_131 : decode cX3_does 131 = .ok (.aload_n 0, 1) := by decide +kernel
theorem dX3_does_132 : decode cX3_does 132 = .ok (.getfield 133, 3) := by decide +kernel
theorem dX3_does_135 : decode cX3_does 135 = .ok (.invokevirtual 79, 3) := by decide +kernel
theorem dX3_does_138 : decode cX3_does 138 = .ok (.pop, 1) := by decide +kernel
theorem dX3_does_139 : decode cX3_does 139 = .ok (.iinc 1 1, 3) := by decide +kernel
theorem dX3_does_142 : decode cX3_does 142 = .ok (.goto (-20), 3) := by decide +kernel
theorem dX3_does_145 : decode cX3_does 145 = .ok (.goto 72, 3) := by decide +kernel
theorem dX3_does_148 : decode cX3_does 148 = .ok (.aload_n 0, 1) := by decide +kernel
theorem dX3_does_149 : decode cX3_does 149 = .ok (.aload_n 0, 1) := by decide +kernel
theorem dX3_does_150 : decode cX3_does 150 = .ok (.getfield 136, 3) := by decide +kernel
theorem dX3_does_153 : decode cX3_does 153 = .ok (.invokevirtual 35, 3) := by decide +kernel
theorem dX3_does_156 : decode cX3_does 156 = .ok (.goto 61, 3) := by decide +kernel
theorem dX3_does_159 : decode cX3_does 159 = .ok (.aload_n 0, 1) := by decide +kernel
theorem dX3_does_160 : decode cX3_does 160 = .ok (.invokevirtual 100, 3) := by decide +kernel
theorem dX3_does_163 : decode cX3_does 163 = .ok (.pop, 1) := by decide +kernel
theorem dX3_does_164 : decode cX3_does 164 = .ok (.goto 53, 3) := by decide +kernel
theorem dX3_does_167 : decode cX3_does 167 = .ok (.aload_n 0, 1) := by decide +kernel
theorem dX3_does_168 : decode cX3_does 168 = .ok (.aload_n 0, 1) := by decide +kernel
theorem dX3_does_169 : decode cX3_does 169 = .ok (.getfield 136, 3) := by decide +kernel
theorem dX3_does_172 : decode cX3_does 172 = .ok (.invokevirtual 103, 3) := by decide +kernel
theorem dX3_does_175 : decode cX3_does 175 = .ok (.pop, 1) := by decide +kernel
theorem dX3_does_176 : decode cX3_does 176 = .ok (.goto 41, 3) := by decide +kernel
theorem dX3_does_179 : decode cX3_does 179 = .ok (.aload_n 0, 1) := by decide +kernel
theorem dX3_does_180 : decode cX3_does 180 = .ok (.aload_n 0, 1) := by decide +kernel
theorem dX3_does_181 : decode cX3_does 181 = .ok (.getfield 136, 3) := by decide +kernel
theorem dX3_does_184 : decode cX3_does 184 = .ok (.invokevirtual 97, 3) := by decide +kernel
theorem dX3_does_187 : decode cX3_does 187 = .ok (.pop, 1) := by decide +kernel
theorem dX3_does_188 : decode cX3_does 188 = .ok (.goto 29, 3) := by decide +kernel
theorem dX3_does_191 : decode cX3_does 191 = .ok (.aload_n 0, 1) := by decide +kernel
theorem dX3_does_192 : decode cX3_does 192 = .ok (.getfield 7, 3) := by decide +kernel
theorem dX3_does_195 : decode cX3_does 195 = .ok (.bipush 7, 2) := by decide +kernel
theorem dX3_does_197 : decode cX3_does 197 = .ok (.aload_n 0, 1) := by decide +kernel
theorem dX3_does_198 : decode cX3_does 198 = .ok (.getfield 136, 3) := by decide +kernel
theorem dX3_does_201 : decode cX3_does 201 = .ok (.iadd, 1) := by decide +kernel
theorem dX3_does_202 : decode cX3_does 202 = .ok (.aload_n 0, 1) := by decide +kernel
theorem dX3_does_203 : decode cX3_does 203 = .ok (.getfield 124, 3) := by decide +kernel
theorem dX3_does_206 : decode cX3_does 206 = .ok (.bipush 102, 2) := by decide +kernel
theorem dX3_does_208 : decode cX3_does 208 = .ok (.if_icmp .ne 7, 3) := by decide +kernel
theorem dX3_does_211 : decode cX3_does 211 = .ok (.iconst 1, 1) := by decide +kernel
theorem dX3_does_212 : decode cX3_does 212 = .ok (.goto 4, 3) := by decide +kernel
theorem dX3_does_215 : decode cX3_does 215 = .ok (.iconst 0, 1) := by decide +kernel
theorem dX3_does_216 : decode cX3_does 216 = .ok (.iastore, 1) := by decide +kernel
theorem dX3_does_217 : decode cX3_does 217 = .ok (.return_, 1) := by decide +kernel
theorem dX3_run_0 : decode cX3_run 0 = .ok (.aload_n 0, 1) := by decide +kernel
theorem dX3_run_1 : decode cX3_run 1 = .ok (.aload_n 0, 1) := by decide +kernel
theorem dX3_run_2 : decode cX3_run 2 = .ok (.invokevirtual 142, 3) := by decide +kernel
theorem dX3_run_5 : decode cX3_run 5 = .ok (.ifCond .eq 7, 3) := by decide +kernel
theorem dX3_run_8 : decode cX3_run 8 = .ok (.iconst 0, 1) := by decide +kernel
theorem dX3_run_9 : decode cX3_run 9 = .ok (.goto 4, 3) := by decide +kernel
theorem dX3_run_12 : decode cX3_run 12 = .ok (.iconst 1, 1) := by decide +kernel
theorem dX3_run_13 : decode cX3_run 13 = .ok (.invokevirtual 64, 3) := by decide +kernel
theorem dX3_run_16 : decode cX3_run 16 = .ok (.ifCond .ne 5, 3) := by decide +kernel
theorem dX3_run_19 : decode cX3_run 19 = .ok (.iconst 0, 1) := by decide +kernel
theorem dX3_run_20 : decode cX3_run 20 = .ok (.ireturn, 1) := by decide +kernel
theorem dX3_run_21 : decode cX3_run 21 = .ok (.aload_n 0, 1) := by decide +kernel
theorem dX3_run_22 : decode cX3_run 22 = .ok (.invokevirtual 67, 3) := by decide +kernel
theorem dX3_run_25 : decode cX3_run 25 = .ok (.aload_n 0, 1) := by decide +kernel
theorem dX3_run_26 : decode cX3_run 26 = .ok (.iconst 0, 1) := by decide +kernel
theorem dX3_run_27 : decode cX3_run 27 = .ok (.putfield 118, 3) := by decide +kernel
theorem dX3_run_30 : decode cX3_run 30 = .ok (.iconst 0, 1) := by decide +kernel
theorem dX3_run_31 : decode cX3_run 31 = .ok (.istore_n 1, 1) := by decide +kernel
theorem dX3_run_32 : decode cX3_run 32 = .ok (.aload_n 0, 1) := by decide +kernel
theorem dX3_run_33 : decode cX3_run 33 = .ok (.invokevirtual 139, 3) := by decide +kernel
theorem dX3_run_36 : decode cX3_run 36 = .ok (.ifCond .eq 27, 3) := by decide +kernel
theorem dX3_run_39 : decode cX3_run 39 = .ok (.aload_n 0, 1) := by decide +kernel
theorem dX3_run_40 : decode cX3_run 40 = .ok (.invokevirtual 145, 3) := by decide +kernel
theorem dX3_run_43 : decode cX3_run 43 = .ok (.ifCond .eq 20, 3) := by decide +kernel
theorem dX3_run_46 : decode cX3_run 46 = .ok (.aload_n 0, 1) := by decide +kernel
theorem dX3_run_47 : decode cX3_run 47 = .ok (.invokevirtual 148, 3) := by decide +kernel
theorem dX3_run_50 : decode cX3_run 50 = .ok (.iinc 1 1, 3) := by decide +kernel
theorem dX3_run_53 : decode cX3_run 53 = .ok (.aload_n 0, 1) := by decide +kernel
theorem dX3_run_54 : decode cX3_run 54 = .ok (.bipush 59, 2) := by decide +kernel
theorem dX3_run_56 : decode cX3_run 56 = .ok (.invokevirtual 127, 3) := by decide +kernel
theorem dX3_run_59 : decode cX3_run 59 = .ok (.pop, 1) := by decide +kernel
theorem dX3_run_60 : decode cX3_run 60 = .ok (.goto (-28), 3) := by decide +kernel
theorem dX3_run_63 : decode cX3_run 63 = .ok (.aload_n 0, 1) := by decide +kernel
theorem dX3_run_64 : decode cX3_run 64 = .ok (.iconst 0, 1) := by decide +kernel
theorem dX3_run_65 : decode cX3_run 65 = .ok (.putfield 115, 3) := by decide +kernel
theorem dX3_run_68 : decode cX3_run 68 = .ok (.iload_n 1, 1) := by decide +kernel
theorem dX3_run_69 : decode cX3_run 69 = .ok (.ireturn, 1) := by decide +kernel
theorem dX3_undo_0 : decode cX3_undo 0 = .ok (.aload_n 0, 1) := by decide +kernel
theorem dX3_undo_1 : decode cX3_undo 1 = .ok (.aload_n 0, 1) := by decide +kernel
theorem dX3_undo_2 : decode cX3_undo 2 = .ok (.getfield 53, 3) := by decide +kernel
theorem dX3_undo_5 : decode cX3_undo 5 = .ok (.ifCond .le 7, 3) := by decide +kernel
theorem dX3_undo_8 : decode cX3_undo 8 = .ok (.iconst 0, 1) := by decide +kernel
theorem dX3_undo_9 : decode cX3_undo 9 = .ok (.goto 4, 3) := by decide +kernel
theorem dX3_undo_12 : decode cX3_undo 12 = .ok (.iconst 1, 1) := by decide +kernel
theorem dX3_undo_13 : decode cX3_undo 13 = .ok (.invokevirtual 64, 3) := by decide +kernel
theorem dX3_undo_16 : decode cX3_undo 16 = .ok (.ifCond .ne 5, 3) := by decide +kernel
theorem dX3_undo_19 : decode cX3_undo 19 = .ok (.iconst 0, 1) := by decide +kernel
theorem dX3_undo_20 : decode cX3_undo 20 = .ok (.ireturn, 1) := by decide +kernel
theorem dX3_undo_21 : decode cX3_undo 21 = .ok (.aload_n 0, 1) := by decide +kernel
theorem dX3_undo_22 : decode cX3_undo 22 = .ok (.aload_n 0, 1) := by decide +kernel
theorem dX3_undo_23 : decode cX3_undo 23 = .ok (.getfield 53, 3) := by decide +kernel
theorem dX3_undo_26 : decode cX3_undo 26 = .ok (.iconst 0, 1) := by decide +kernel
theorem dX3_undo_27 : decode cX3_undo 27 = .ok (.invokevirtual 56, 3) := by decide +kernel
theorem dX3_undo_30 : decode cX3_undo 30 = .ok (.aload_n 0, 1) := by decide +kernel
theorem dX3_undo_31 : decode cX3_undo 31 = .ok (.dup, 1) := by decide +kernel
theorem dX3_undo_32 : decode cX3_undo 32 = .ok (.getfield 53, 3) := by decide +kernel
theorem dX3_undo_35 : decode cX3_undo 35 = .ok (.iconst 1, 1) := by decide +kernel
theorem dX3_undo_36 : decode cX3_undo 36 = .ok (.isub, 1) := by decide +kernel
theorem dX3_undo_37 : decode cX3_undo 37 = .ok (.putfield 53, 3) := by decide +kernel
theorem dX3_undo_40 : decode cX3_undo 40 = .ok (.aload_n 0, 1) := by decide +kernel
theorem dX3_undo_41 : decode cX3_undo 41 = .ok (.getfield 53, 3) := by decide +kernel
theorem dX3_undo_44 : decode cX3_undo 44 = .ok (.ireturn, 1) := by decide +kernel
theorem dX3_savedStates_0 : decode cX3_savedStates 0 = .ok (.aload_n 0, 1) := by decide +kernel
theorem dX3_savedStates_1 : decode cX3_savedStates 1 = .ok (.aload_n 0, 1) := by decide +kernel
theorem dX3_savedStates_2 : decode cX3_savedStates 2 = .ok (.getfield 53, 3) := by decide +kernel
theorem dX3_savedStates_5 : decode cX3_savedStates 5 = .ok (.invokevirtual 88, 3) := by decide +kernel
theorem dX3_savedStates_8 : decode cX3_savedStates 8 = .ok (.ireturn, 1) := by decide +kernel
theorem dX3_mix_0 : decode cX3_mix 0 = .ok (.aload_n 0, 1) := by decide +kernel
theorem dX3_mix_1 : decode cX3_mix 1 = .ok (.ldc2_w 151, 3) := by decide +kernel
theorem dX3_mix_4 : decode cX3_mix 4 = .ok (.aload_n 0, 1) := by decide +kernel
theorem dX3_mix_5 : decode cX3_mix 5 = .ok (.getfield 153, 3) := by decide +kernel
theorem dX3_mix_8 : decode cX3_mix 8 = .ok (.lmul, 1) := by decide +kernel
theorem dX3_mix_9 : decode cX3_mix 9 = .ok (.lload_n 1, 1) := by decide +kernel
theorem dX3_mix_10 : decode cX3_mix 10 = .ok (.ladd, 1) := by decide +kernel
theorem dX3_mix_11 : decode cX3_mix 11 = .ok (.putfield 153, 3) := by decide +kernel
theorem dX3_mix_14 : decode cX3_mix 14 = .ok (.return_, 1) := by decide +kernel
theorem dX3_digest_0 : decode cX3_digest 0 = .ok (.aload_n 0, 1) := by decide +kernel
theorem dX3_digest_1 : decode cX3_digest 1 = .ok (.iconst 0, 1) := by decide +kernel
theorem dX3_digest_2 : decode cX3_digest 2 = .ok (.putfield 16, 3) := by decide +kernel
theorem dX3_digest_5 : decode cX3_digest 5 = .ok (.aload_n 0, 1) := by decide +kernel
theorem dX3_digest_6 : decode cX3_digest 6 = .ok (.ldc2_w 157, 3) := by decide +kernel
theorem dX3_digest_9 : decode cX3_digest 9 = .ok (.putfield 153, 3) := by decide +kernel
theorem dX3_digest_12 : decode cX3_digest 12 = .ok (.aload_n 0, 1) := by decide +kernel
theorem dX3_digest_13 : decode cX3_digest 13 = .ok (.aload_n 0, 1) := by decide +kernel
theorem dX3_digest_14 : decode cX3_digest 14 = .ok (.getfield 7, 3) := by decide +kernel
theorem dX3_digest_17 : decode cX3_digest 17 = .ok (.iconst 0, 1) := by decide +kernel
theorem dX3_digest_18 : decode cX3_digest 18 = .ok (.iaload, 1) := by decide +kernel
theorem dX3_digest_19 : decode cX3_digest 19 = .ok (.i2l, 1) := by decide +kernel
theorem dX3_digest_20 : decode cX3_digest 20 = .ok (.invokevirtual 159, 3) := by decide +kernel
theorem dX3_digest_23 : decode cX3_digest 23 = .ok (.aload_n 0, 1) := by decide +kernel
theorem dX3_digest_24 : decode cX3_digest 24 = .ok (.aload_n 0, 1) := by decide +kernel
theorem dX3_digest_25 : decode cX3_digest 25 = .ok (.getfield 7, 3) := by decide +kernel
theorem dX3_digest_28 : decode cX3_digest 28 = .ok (.iconst 1, 1) := by decide +kernel
theorem dX3_digest_29 : decode cX3_digest 29 = .ok (.iaload, 1) := by decide +kernel
theorem dX3_digest_30 : decode cX3_digest 30 = .ok (.i2l, 1) := by decide +kernel
theorem dX3_digest_31 : decode cX3_digest 31 = .ok (.invokevirtual 159, 3) := by decide +kernel
theorem dX3_digest_34 : decode cX3_digest 34 = .ok (.aload_n 0, 1) := by decide +kernel
theorem dX3_digest_35 : decode cX3_digest 35 = .ok (.aload_n 0, 1) := by decide +kernel
theorem dX3_digest_36 : decode cX3_digest 36 = .ok (.getfield 7, 3) := by decide +kernel
theorem dX3_digest_39 : decode cX3_digest 39 = .ok (.iconst 2, 1) := by decide +kernel
theorem dX3_digest_40 : decode cX3_digest 40 = .ok (.iaload, 1) := by decide +kernel
theorem dX3_digest_41 : decode cX3_digest 41 = .ok (.i2l, 1) := by decide +kernel
theorem dX3_digest_42 : decode cX3_digest 42 = .ok (.invokevirtual 159, 3) := by decide +kernel
theorem dX3_digest_45 : decode cX3_digest 45 = .ok (.aload_n 0, 1) := by decide +kernel
theorem dX3_digest_46 : decode cX3_digest 46 = .ok (.aload_n 0, 1) := by decide +kernel
theorem dX3_digest_47 : decode cX3_digest 47 = .ok (.iconst (-1), 1) := by decide +kernel
theorem dX3_digest_48 : decode cX3_digest 48 = .ok (.invokevirtual 32, 3) := by decide +kernel
theorem dX3_digest_51 : decode cX3_digest 51 = .ok (.i2l, 1) := by decide +kernel
theorem dX3_digest_52 : decode cX3_digest 52 = .ok (.invokevirtual 159, 3) := by decide +kernel
theorem dX3_digest_55 : decode cX3_digest 55 = .ok (.aload_n 0, 1) := by decide +kernel
theorem dX3_digest_56 : decode cX3_digest 56 = .ok (.aload_n 0, 1) := by decide +kernel
theorem dX3_digest_57 : decode cX3_digest 57 = .ok (.getfield 7, 3) := by decide +kernel
theorem dX3_digest_60 : decode cX3_digest 60 = .ok (.iconst 3, 1) := by decide +kernel
theorem dX3_digest_61 : decode cX3_digest 61 = .ok (.iaload, 1) := by decide +kernel
theorem dX3_digest_62 : decode cX3_digest 62 = .ok (.i2l, 1) := by decide +kernel
theorem dX3_digest_63 : decode cX3_digest 63 = .ok (.invokevirtual 159, 3) := by decide +kernel
theorem dX3_digest_66 : decode cX3_digest 66 = .ok (.aload_n 0, 1) := by decide +kernel
theorem dX3_digest_67 : decode cX3_digest 67 = .ok (.aload_n 0, 1) := by decide +kernel
theorem dX3_digest_68 : decode cX3_digest 68 = .ok (.getfield 7, 3) := by decide +kernel
theorem dX3_digest_71 : decode cX3_digest 71 = .ok (.iconst 4, 1) := by decide +kernel
theorem dX3_digest_72 : decode cX3_digest 72 = .ok (.iaload, 1) := by decide +kernel
theorem dX3_digest_73 : decode cX3_digest 73 = .ok (.i2l, 1) := by decide +kernel
theorem dX3_digest_74 : decode cX3_digest 74 = .ok (.invokevirtual 159, 3) := by decide +kernel
theorem dX3_digest_77 : decode cX3_digest 77 = .ok (.aload_n 0, 1) := by decide +kernel
theorem dX3_digest_78 : decode cX3_digest 78 = .ok (.aload_n 0, 1) := by decide +kernel
theorem dX3_digest_79 : decode cX3_digest 79 = .ok (.getfield 7, 3) := by decide +kernel
theorem dX3_digest_82 : decode cX3_digest 82 = .ok (.iconst 5, 1) := by decide +kernel
theorem dX3_digest_83 : decode cX3_digest 83 = .ok (.iaload, 1) := by decide +kernel
theorem dX3_digest_84 : decode cX3_digest 84 = .ok (.i2l, 1) := by decide +kernel
theorem dX3_digest_85 : decode cX3_digest 85 = .ok (.invokevirtual 159, 3) := by decide +kernel
theorem dX3_digest_88 : decode cX3_digest 88 = .ok (.aload_n 0, 1) := by decide +kernel
theorem dX3_digest_89 : decode cX3_digest 89 = .ok (.aload_n 0, 1) := by decide +kernel
theorem dX3_digest_90 : decode cX3_digest 90 = .ok (.getfield 7, 3) := by decide +kernel
theorem dX3_digest_93 : decode cX3_digest 93 = .ok (.bipush 6, 2) := by decide +kernel
theorem dX3_digest_95 : decode cX3_digest 95 = .ok (.iaload, 1) := by decide +kernel
theorem dX3_digest_96 : decode cX3_digest 96 = .ok (.i2l, 1) := by decide +kernel
theorem dX3_digest_97 : decode cX3_digest 97 = .ok (.invokevirtual 159, 3) := by decide +kernel
theorem dX3_digest_100 : decode cX3_digest 100 = .ok (.aload_n 0, 1) := by decide +kernel
theorem dX3_digest_101 : decode cX3_digest 101 = .ok (.aload_n 0, 1) := by decide +kernel
theorem dX3_digest_102 : decode cX3_digest 102 = .ok (.invokevirtual 106, 3) := by decide +kernel
theorem dX3_digest_105 : decode cX3_digest 105 = .ok (.i2l, 1) := by decide +kernel
theorem dX3_digest_106 : decode cX3_digest 106 = .ok (.invokevirtual 159, 3) := by decide +kernel
theorem dX3_digest_109 : decode cX3_digest 109 = .ok (.aload_n 0, 1) := by decide +kernel
theorem dX3_digest_110 : decode cX3_digest 110 = .ok (.aload_n 0, 1) := by decide +kernel
theorem dX3_digest_111 : decode cX3_digest 111 = .ok (.invokevirtual 46, 3) := by decide +kernel
theorem dX3_digest_114 : decode cX3_digest 114 = .ok (.i2l, 1) := by decide +kernel
theorem dX3_digest_115 : decode cX3_digest 115 = .ok (.invokevirtual 159, 3) := by decide +kernel
theorem dX3_digest_118 : decode cX3_digest 118 = .ok (.aload_n 0, 1) := by decide +kernel
theorem dX3_digest_119 : decode cX3_digest 119 = .ok (.aload_n 0, 1) := by decide +kernel
theorem dX3_digest_120 : decode cX3_digest 120 = .ok (.invokevirtual 109, 3) := by decide +kernel
theorem dX3_digest_123 : decode cX3_digest 123 = .ok (.i2l, 1) := by decide +kernel
theorem dX3_digest_124 : decode cX3_digest 124 = .ok (.invokevirtual 159, 3) := by decide +kernel
theorem dX3_digest_127 : decode cX3_digest 127 = .ok (.iconst 0, 1) := by decide +kernel
theorem dX3_digest_128 : decode cX3_digest 128 = .ok (.istore_n 1, 1) := by decide +kernel
theorem dX3_digest_129 : decode cX3_digest 129 = .ok (.iload_n 1, 1) := by decide +kernel
theorem dX3_digest_130 : decode cX3_digest 130 = .ok (.aload_n 0, 1) := by decide +kernel
theorem dX3_digest_131 : decode cX3_digest 131 = .ok (.getfield 7, 3) := by decide +kernel
theorem dX3_digest_134 : decode cX3_digest 134 = .ok (.iconst 0, 1) := by decide +kernel
theorem dX3_digest_135 : decode cX3_digest 135 = .ok (.iaload, 1) := by decide +kernel
theorem dX3_digest_136 : decode cX3_digest 136 = .ok (.if_icmp .ge 107, 3) := by decide +kernel
theorem dX3_digest_139 : decode cX3_digest 139 = .ok (.aload_n 0, 1) := by decide +kernel
theorem dX3_digest_140 : decode cX3_digest 140 = .ok (.iload_n 1, 1) := by decide +kernel
theorem dX3_digest_141 : decode cX3_digest 141 = .ok (.invokevirtual 32, 3) := by decide +kernel
theorem dX3_digest_144 : decode cX3_digest 144 = .ok (.istore_n 2, 1) := by decide +kernel
theorem dX3_digest_145 : decode cX3_digest 145 = .ok (.aload_n 0, 1) := by decide +kernel
theorem dX3_digest_146 : decode cX3_digest 146 = .ok (.iload_n 2, 1) := by decide +kernel
theorem dX3_digest_147 : decode cX3_digest 147 = .ok (.i2l, 1) := by decide +kernel
theorem dX3_digest_148 : decode cX3_digest 148 = .ok (.invokevirtual 159, 3) := by decide +kernel
theorem dX3_digest_151 : decode cX3_digest 151 = .ok (.aload_n 0, 1) := by decide +kernel
theorem dX3_digest_152 : decode cX3_digest 152 = .ok (.aload_n 0, 1) := by decide +kernel
theorem dX3_digest_153 : decode cX3_digest 153 = .ok (.getfield 7, 3) := by decide +kernel
theorem dX3_digest_156 : decode cX3_digest 156 = .ok (.bipush 7, 2) := by decide +kernel
theorem dX3_digest_158 : decode cX3_digest 158 = .ok (.iload_n 1, 1) := by decide +kernel
theorem dX3_digest_159 : decode cX3_digest 159 = .ok (.iadd, 1) := by decide +kernel
theorem dX3_digest_160 : decode cX3_digest 160 = .ok (.iaload, 1) := by decide +kernel
theorem dX3_digest_161 : decode cX3_digest 161 = .ok (.i2l, 1) := by decide +kernel
theorem dX3_digest_162 : decode cX3_digest 162 = .ok (.invokevirtual 159, 3) := by decide +kernel
theorem dX3_digest_165 : decode cX3_digest 165 = .ok (.aload_n 0, 1) := by decide +kernel
theorem dX3_digest_166 : decode cX3_digest 166 = .ok (.aload_n 0, 1) := by decide +kernel
theorem dX3_digest_167 : decode cX3_digest 167 = .ok (.getfield 7, 3) := by decide +kernel
theorem dX3_digest_170 : decode cX3_digest 170 = .ok (.bipush 17, 2) := by decide +kernel
theorem dX3_digest_172 : decode cX3_digest 172 = .ok (.iload_n 1, 1) := by decide +kernel
theorem dX3_digest_173 : decode cX3_digest 173 = .ok (.iadd, 1) := by decide +kernel
theorem dX3_digest_174 : decode cX3_digest 174 = .ok (.iaload, 1) := by decide +kernel
theorem dX3_digest_175 : decode cX3_digest 175 = .ok (.i2l, 1) := by decide +kernel
theorem dX3_digest_176 : decode cX3_digest 176 = .ok (.invokevirtual 159, 3) := by decide +kernel
theorem dX3_digest_179 : decode cX3_digest 179 = .ok (.iconst 0, 1) := by decide +kernel
theorem dX3_digest_180 : decode cX3_digest 180 = .ok (.istore_n 3, 1) := by decide +kernel
theorem dX3_digest_181 : decode cX3_digest 181 = .ok (.iload_n 3, 1) := by decide +kernel
theorem dX3_digest_182 : decode cX3_digest 182 = .ok (.iload_n 2, 1) := by decide +kernel
theorem dX3_digest_183 : decode cX3_digest 183 = .ok (.if_icmp .ge 54, 3) := by decide +kernel
theorem dX3_digest_186 : decode cX3_digest 186 = .ok (.aload_n 0, 1) := by decide +kernel
theorem dX3_digest_187 : decode cX3_digest 187 = .ok (.iload_n 1, 1) := by decide +kernel
theorem dX3_digest_188 : decode cX3_digest 188 = .ok (.iload_n 3, 1) := by decide +kernel
theorem dX3_digest_189 : decode cX3_digest 189 = .ok (.invokevirtual 49, 3) := by decide +kernel
theorem dX3_digest_192 : decode cX3_digest 192 = .ok (.istore 4, 2) := by decide +kernel
theorem dX3_digest_194 : decode cX3_digest 194 = .ok (.aload_n 0, 1) := by decide +kernel
theorem dX3_digest_195 : decode cX3_digest 195 = .ok (.iload 4, 2) := by decide +kernel
theorem dX3_digest_197 : decode cX3_digest 197 = .ok (.i2l, 1) := by decide +kernel
theorem dX3_digest_198 : decode cX3_digest 198 = .ok (.invokevirtual 159, 3) := by decide +kernel
theorem dX3_digest_201 : decode cX3_digest 201 = .ok (.aload_n 0, 1) := by decide +kernel
theorem dX3_digest_202 : decode cX3_digest 202 = .ok (.aload_n 0, 1) := by decide +kernel
theorem dX3_digest_203 : decode cX3_digest 203 = .ok (.getfield 7, 3) := by decide +kernel
theorem dX3_digest_206 : decode cX3_digest 206 = .ok (.bipush 59, 2) := by decide +kernel
theorem dX3_digest_208 : decode cX3_digest 208 = .ok (.iload 4, 2) := by decide +kernel
theorem dX3_digest_210 : decode cX3_digest 210 = .ok (.iadd, 1) := by decide +kernel
theorem dX3_digest_211 : decode cX3_digest 211 = .ok (.iaload, 1) := by decide +kernel
theorem dX3_digest_212 : decode cX3_digest 212 = .ok (.i2l, 1) := by decide +kernel
theorem dX3_digest_213 : decode cX3_digest 213 = .ok (.invokevirtual 159, 3) := by decide +kernel
theorem dX3_digest_216 : decode cX3_digest 216 = .ok (.aload_n 0, 1) := by decide +kernel
theorem dX3_digest_217 : decode cX3_digest 217 = .ok (.aload_n 0, 1) := by decide +kernel
theorem dX3_digest_218 : decode cX3_digest 218 = .ok (.getfield 7, 3) := by decide +kernel
theorem dX3_digest_221 : decode cX3_digest 221 = .ok (.bipush 91, 2) := by decide +kernel
theorem dX3_digest_223 : decode cX3_digest 223 = .ok (.iload 4, 2) := by decide +kernel
theorem dX3_digest_225 : decode cX3_digest 225 = .ok (.iadd, 1) := by decide +kernel
theorem dX3_digest_226 : decode cX3_digest 226 = .ok (.iaload, 1) := by decide +kernel
theorem dX3_digest_227 : decode cX3_digest 227 = .ok (.i2l, 1) := by decide +kernel
theorem dX3_digest_228 : decode cX3_digest 228 = .ok (.invokevirtual 159, 3) := by decide +kernel
theorem dX3_digest_231 : decode cX3_digest 231 = .ok (.iinc 3 1, 3) := by decide +kernel
theorem dX3_digest_234 : decode cX3_digest 234 = .ok (.goto (-53), 3) := by decide +kernel
theorem dX3_digest_237 : decode cX3_digest 237 = .ok (.iinc 1 1, 3) := by decide +kernel
theorem dX3_digest_240 : decode cX3_digest 240 = .ok (.goto (-111), 3) := by decide +kernel
theorem dX3_digest_243 : decode cX3_digest 243 = .ok (.iconst 0, 1) := by decide +kernel
theorem dX3_digest_244 : decode cX3_digest 244 = .ok (.istore_n 1, 1) := by decide +kernel
theorem dX3_digest_245 : decode cX3_digest 245 = .ok (.iload_n 1, 1) := by decide +kernel
theorem dX3_digest_246 : decode cX3_digest 246 = .ok (.bipush 32, 2) := by decide +kernel
theorem dX3_digest_248 : decode cX3_digest 248 = .ok (.if_icmp .ge 23, 3) := by decide +kernel
theorem dX3_digest_251 : decode cX3_digest 251 = .ok (.aload_n 0, 1) := by decide +kernel
theorem dX3_digest_252 : decode cX3_digest 252 = .ok (.aload_n 0, 1) := by decide +kernel
theorem dX3_digest_253 : decode cX3_digest 253 = .ok (.getfield 7, 3) := by decide +kernel
theorem dX3_digest_256 : decode cX3_digest 256 = .ok (.bipush 27, 2) := by decide +kernel
theorem dX3_digest_258 : decode cX3_digest 258 = .ok (.iload_n 1, 1) := by decide +kernel
theorem dX3_digest_259 : decode cX3_digest 259 = .ok (.iadd, 1) := by decide +kernel
theorem dX3_digest_260 : decode cX3_digest 260 = .ok (.iaload, 1) := by decide +kernel
theorem dX3_digest_261 : decode cX3_digest 261 = .ok (.i2l, 1) := by decide +kernel
theorem dX3_digest_262 : decode cX3_digest 262 = .ok (.invokevirtual 159, 3) := by decide +kernel
theorem dX3_digest_265 : decode cX3_digest 265 = .ok (.iinc 1 1, 3) := by decide +kernel
theorem dX3_digest_268 : decode cX3_digest 268 = .ok (.goto (-23), 3) := by decide +kernel
theorem dX3_digest_271 : decode cX3_digest 271 = .ok (.aload_n 0, 1) := by decide +kernel
theorem dX3_digest_272 : decode cX3_digest 272 = .ok (.getfield 153, 3) := by decide +kernel
theorem dX3_digest_275 : decode cX3_digest 275 = .ok (.lreturn, 1) := by decide +kernel
end
