section
-- ===== PART A: goes FIRST, ahead of the names: the tables' words, and 'selects' of the private methods out of them =====
/-- a private method of a class that the tables say can be made, by its rows of tables_1 -/
def lw_okq (q : MethodName × Nat) : Prop := (q.1.cls ≠ "java/lang/invoke/MethodHandle" ∧ q.1.cls ≠ "java/lang/invoke/VarHandle") ∧ Cond.instantiable q.1.cls q.2 ∈ tables_1 ∧ Cond.privateMethod q.1 ∈ tables_1 ∧ Cond.instanceMethod q.1 ∈ tables_1
theorem lw_p0 : lw_okq (⟨"DictationBelt", "withRecording", "(JI)J"⟩, 5) := ⟨⟨by decide +kernel, by decide +kernel⟩, List.mem_of_getElem? (i := 14) (by decide +kernel), List.mem_of_getElem? (i := 243) (by decide +kernel), List.mem_of_getElem? (i := 244) (by decide +kernel)⟩
theorem lw_p1 : lw_okq (⟨"java/lang/Throwable", "fillInStackTrace", "(I)Ljava/lang/Throwable;"⟩, 6) := ⟨⟨by decide +kernel, by decide +kernel⟩, List.mem_of_getElem? (i := 307) (by decide +kernel), List.mem_of_getElem? (i := 305) (by decide +kernel), List.mem_of_getElem? (i := 306) (by decide +kernel)⟩
theorem lw_p2 : lw_okq (⟨"DictationBelt", "save", "()V"⟩, 5) := ⟨⟨by decide +kernel, by decide +kernel⟩, List.mem_of_getElem? (i := 14) (by decide +kernel), List.mem_of_getElem? (i := 337) (by decide +kernel), List.mem_of_getElem? (i := 338) (by decide +kernel)⟩
theorem lw_p3 : lw_okq (⟨"DictationBelt", "slotAt", "(I)LDictationBelt$State;"⟩, 5) := ⟨⟨by decide +kernel, by decide +kernel⟩, List.mem_of_getElem? (i := 14) (by decide +kernel), List.mem_of_getElem? (i := 341) (by decide +kernel), List.mem_of_getElem? (i := 342) (by decide +kernel)⟩
theorem lw_p4 : lw_okq (⟨"DictationBelt", "requireRecording", "(I)V"⟩, 5) := ⟨⟨by decide +kernel, by decide +kernel⟩, List.mem_of_getElem? (i := 14) (by decide +kernel), List.mem_of_getElem? (i := 441) (by decide +kernel), List.mem_of_getElem? (i := 442) (by decide +kernel)⟩
theorem lw_p5 : lw_okq (⟨"DictationBelt", "requirePlace", "(II)V"⟩, 5) := ⟨⟨by decide +kernel, by decide +kernel⟩, List.mem_of_getElem? (i := 14) (by decide +kernel), List.mem_of_getElem? (i := 507) (by decide +kernel), List.mem_of_getElem? (i := 508) (by decide +kernel)⟩
theorem lw_p6 : lw_okq (⟨"DictationBelt", "requirePlayer", "()V"⟩, 5) := ⟨⟨by decide +kernel, by decide +kernel⟩, List.mem_of_getElem? (i := 14) (by decide +kernel), List.mem_of_getElem? (i := 562) (by decide +kernel), List.mem_of_getElem? (i := 563) (by decide +kernel)⟩
theorem lw_p7 : lw_okq (⟨"DictationBelt", "obeyOrders", "()I"⟩, 5) := ⟨⟨by decide +kernel, by decide +kernel⟩, List.mem_of_getElem? (i := 14) (by decide +kernel), List.mem_of_getElem? (i := 650) (by decide +kernel), List.mem_of_getElem? (i := 651) (by decide +kernel)⟩
theorem lw_p8 : lw_okq (⟨"DictationBelt", "mayObey", "(III)Z"⟩, 5) := ⟨⟨by decide +kernel, by decide +kernel⟩, List.mem_of_getElem? (i := 14) (by decide +kernel), List.mem_of_getElem? (i := 657) (by decide +kernel), List.mem_of_getElem? (i := 658) (by decide +kernel)⟩
theorem lw_p9 : lw_okq (⟨"DictationBelt", "obey", "(III)V"⟩, 5) := ⟨⟨by decide +kernel, by decide +kernel⟩, List.mem_of_getElem? (i := 14) (by decide +kernel), List.mem_of_getElem? (i := 661) (by decide +kernel), List.mem_of_getElem? (i := 662) (by decide +kernel)⟩
theorem lw_p10 : lw_okq (⟨"DictationBeltModel", "canBegin", "()Z"⟩, 10) := ⟨⟨by decide +kernel, by decide +kernel⟩, List.mem_of_getElem? (i := 673) (by decide +kernel), List.mem_of_getElem? (i := 718) (by decide +kernel), List.mem_of_getElem? (i := 719) (by decide +kernel)⟩
theorem lw_p11 : lw_okq (⟨"DictationBeltModel", "cells", "(I)I"⟩, 10) := ⟨⟨by decide +kernel, by decide +kernel⟩, List.mem_of_getElem? (i := 673) (by decide +kernel), List.mem_of_getElem? (i := 722) (by decide +kernel), List.mem_of_getElem? (i := 723) (by decide +kernel)⟩
theorem lw_p12 : lw_okq (⟨"DictationBeltModel", "holds", "(I)Z"⟩, 10) := ⟨⟨by decide +kernel, by decide +kernel⟩, List.mem_of_getElem? (i := 673) (by decide +kernel), List.mem_of_getElem? (i := 726) (by decide +kernel), List.mem_of_getElem? (i := 727) (by decide +kernel)⟩
theorem lw_p13 : lw_okq (⟨"DictationBeltModel", "save", "()V"⟩, 10) := ⟨⟨by decide +kernel, by decide +kernel⟩, List.mem_of_getElem? (i := 673) (by decide +kernel), List.mem_of_getElem? (i := 730) (by decide +kernel), List.mem_of_getElem? (i := 731) (by decide +kernel)⟩
theorem lw_p14 : lw_okq (⟨"DictationBeltModel", "copies", "(II)V"⟩, 10) := ⟨⟨by decide +kernel, by decide +kernel⟩, List.mem_of_getElem? (i := 673) (by decide +kernel), List.mem_of_getElem? (i := 734) (by decide +kernel), List.mem_of_getElem? (i := 735) (by decide +kernel)⟩
theorem lw_p15 : lw_okq (⟨"DictationBeltModel", "begins", "()I"⟩, 10) := ⟨⟨by decide +kernel, by decide +kernel⟩, List.mem_of_getElem? (i := 673) (by decide +kernel), List.mem_of_getElem? (i := 738) (by decide +kernel), List.mem_of_getElem? (i := 739) (by decide +kernel)⟩
def lw_privs_1 : List (MethodName × Nat) := [(⟨"DictationBelt", "withRecording", "(JI)J"⟩, 5), (⟨"java/lang/Throwable", "fillInStackTrace", "(I)Ljava/lang/Throwable;"⟩, 6), (⟨"DictationBelt", "save", "()V"⟩, 5), (⟨"DictationBelt", "slotAt", "(I)LDictationBelt$State;"⟩, 5), (⟨"DictationBelt", "requireRecording", "(I)V"⟩, 5), (⟨"DictationBelt", "requirePlace", "(II)V"⟩, 5), (⟨"DictationBelt", "requirePlayer", "()V"⟩, 5), (⟨"DictationBelt", "obeyOrders", "()I"⟩, 5), (⟨"DictationBelt", "mayObey", "(III)Z"⟩, 5), (⟨"DictationBelt", "obey", "(III)V"⟩, 5), (⟨"DictationBeltModel", "canBegin", "()Z"⟩, 10), (⟨"DictationBeltModel", "cells", "(I)I"⟩, 10), (⟨"DictationBeltModel", "holds", "(I)Z"⟩, 10), (⟨"DictationBeltModel", "save", "()V"⟩, 10), (⟨"DictationBeltModel", "copies", "(II)V"⟩, 10), (⟨"DictationBeltModel", "begins", "()I"⟩, 10)]
theorem lw_r1 : ∀ q ∈ lw_privs_1, lw_okq q := List.forall_mem_cons.mpr ⟨lw_p0, List.forall_mem_cons.mpr ⟨lw_p1, List.forall_mem_cons.mpr ⟨lw_p2, List.forall_mem_cons.mpr ⟨lw_p3, List.forall_mem_cons.mpr ⟨lw_p4, List.forall_mem_cons.mpr ⟨lw_p5, List.forall_mem_cons.mpr ⟨lw_p6, List.forall_mem_cons.mpr ⟨lw_p7, List.forall_mem_cons.mpr ⟨lw_p8, List.forall_mem_cons.mpr ⟨lw_p9, List.forall_mem_cons.mpr ⟨lw_p10, List.forall_mem_cons.mpr ⟨lw_p11, List.forall_mem_cons.mpr ⟨lw_p12, List.forall_mem_cons.mpr ⟨lw_p13, List.forall_mem_cons.mpr ⟨lw_p14, List.forall_mem_cons.mpr ⟨lw_p15, fun _ h => absurd h List.not_mem_nil⟩⟩⟩⟩⟩⟩⟩⟩⟩⟩⟩⟩⟩⟩⟩⟩
theorem lw_p16 : lw_okq (⟨"DictationBeltModel", "halts", "()I"⟩, 10) := ⟨⟨by decide +kernel, by decide +kernel⟩, List.mem_of_getElem? (i := 673) (by decide +kernel), List.mem_of_getElem? (i := 742) (by decide +kernel), List.mem_of_getElem? (i := 743) (by decide +kernel)⟩
theorem lw_p17 : lw_okq (⟨"DictationBeltModel", "leaves", "(I)V"⟩, 10) := ⟨⟨by decide +kernel, by decide +kernel⟩, List.mem_of_getElem? (i := 673) (by decide +kernel), List.mem_of_getElem? (i := 746) (by decide +kernel), List.mem_of_getElem? (i := 747) (by decide +kernel)⟩
theorem lw_p18 : lw_okq (⟨"DictationBeltModel", "canSpeak", "(I)Z"⟩, 10) := ⟨⟨by decide +kernel, by decide +kernel⟩, List.mem_of_getElem? (i := 673) (by decide +kernel), List.mem_of_getElem? (i := 764) (by decide +kernel), List.mem_of_getElem? (i := 765) (by decide +kernel)⟩
theorem lw_p19 : lw_okq (⟨"DictationBeltModel", "writable", "()I"⟩, 10) := ⟨⟨by decide +kernel, by decide +kernel⟩, List.mem_of_getElem? (i := 673) (by decide +kernel), List.mem_of_getElem? (i := 768) (by decide +kernel), List.mem_of_getElem? (i := 769) (by decide +kernel)⟩
theorem lw_p20 : lw_okq (⟨"DictationBeltModel", "isWritable", "(I)Z"⟩, 10) := ⟨⟨by decide +kernel, by decide +kernel⟩, List.mem_of_getElem? (i := 673) (by decide +kernel), List.mem_of_getElem? (i := 772) (by decide +kernel), List.mem_of_getElem? (i := 773) (by decide +kernel)⟩
theorem lw_p21 : lw_okq (⟨"DictationBeltModel", "speaks", "(I)I"⟩, 10) := ⟨⟨by decide +kernel, by decide +kernel⟩, List.mem_of_getElem? (i := 673) (by decide +kernel), List.mem_of_getElem? (i := 776) (by decide +kernel), List.mem_of_getElem? (i := 777) (by decide +kernel)⟩
theorem lw_p22 : lw_okq (⟨"DictationBeltModel", "loses", "(I)V"⟩, 10) := ⟨⟨by decide +kernel, by decide +kernel⟩, List.mem_of_getElem? (i := 673) (by decide +kernel), List.mem_of_getElem? (i := 780) (by decide +kernel), List.mem_of_getElem? (i := 781) (by decide +kernel)⟩
theorem lw_p23 : lw_okq (⟨"DictationBeltModel", "placeOf", "(I)I"⟩, 10) := ⟨⟨by decide +kernel, by decide +kernel⟩, List.mem_of_getElem? (i := 673) (by decide +kernel), List.mem_of_getElem? (i := 784) (by decide +kernel), List.mem_of_getElem? (i := 785) (by decide +kernel)⟩
theorem lw_p24 : lw_okq (⟨"DictationBeltModel", "isRecording", "(I)Z"⟩, 10) := ⟨⟨by decide +kernel, by decide +kernel⟩, List.mem_of_getElem? (i := 673) (by decide +kernel), List.mem_of_getElem? (i := 792) (by decide +kernel), List.mem_of_getElem? (i := 793) (by decide +kernel)⟩
theorem lw_p25 : lw_okq (⟨"DictationBeltModel", "told", "(I)I"⟩, 10) := ⟨⟨by decide +kernel, by decide +kernel⟩, List.mem_of_getElem? (i := 673) (by decide +kernel), List.mem_of_getElem? (i := 811) (by decide +kernel), List.mem_of_getElem? (i := 812) (by decide +kernel)⟩
theorem lw_p26 : lw_okq (⟨"DictationBeltModel", "ofPlace", "(III)I"⟩, 10) := ⟨⟨by decide +kernel, by decide +kernel⟩, List.mem_of_getElem? (i := 673) (by decide +kernel), List.mem_of_getElem? (i := 831) (by decide +kernel), List.mem_of_getElem? (i := 832) (by decide +kernel)⟩
theorem lw_p27 : lw_okq (⟨"DictationBeltModel", "cellAt", "(II)I"⟩, 10) := ⟨⟨by decide +kernel, by decide +kernel⟩, List.mem_of_getElem? (i := 673) (by decide +kernel), List.mem_of_getElem? (i := 835) (by decide +kernel), List.mem_of_getElem? (i := 836) (by decide +kernel)⟩
theorem lw_p28 : lw_okq (⟨"DictationBeltModel", "goes", "(I)I"⟩, 10) := ⟨⟨by decide +kernel, by decide +kernel⟩, List.mem_of_getElem? (i := 673) (by decide +kernel), List.mem_of_getElem? (i := 876) (by decide +kernel), List.mem_of_getElem? (i := 877) (by decide +kernel)⟩
theorem lw_p29 : lw_okq (⟨"DictationBeltModel", "plays", "()I"⟩, 10) := ⟨⟨by decide +kernel, by decide +kernel⟩, List.mem_of_getElem? (i := 673) (by decide +kernel), List.mem_of_getElem? (i := 884) (by decide +kernel), List.mem_of_getElem? (i := 885) (by decide +kernel)⟩
theorem lw_p30 : lw_okq (⟨"DictationBeltModel", "goesBack", "(I)I"⟩, 10) := ⟨⟨by decide +kernel, by decide +kernel⟩, List.mem_of_getElem? (i := 673) (by decide +kernel), List.mem_of_getElem? (i := 892) (by decide +kernel), List.mem_of_getElem? (i := 893) (by decide +kernel)⟩
theorem lw_p31 : lw_okq (⟨"DictationBeltModel", "correctedCells", "()I"⟩, 10) := ⟨⟨by decide +kernel, by decide +kernel⟩, List.mem_of_getElem? (i := 673) (by decide +kernel), List.mem_of_getElem? (i := 916) (by decide +kernel), List.mem_of_getElem? (i := 917) (by decide +kernel)⟩
def lw_privs_2 : List (MethodName × Nat) := [(⟨"DictationBeltModel", "halts", "()I"⟩, 10), (⟨"DictationBeltModel", "leaves", "(I)V"⟩, 10), (⟨"DictationBeltModel", "canSpeak", "(I)Z"⟩, 10), (⟨"DictationBeltModel", "writable", "()I"⟩, 10), (⟨"DictationBeltModel", "isWritable", "(I)Z"⟩, 10), (⟨"DictationBeltModel", "speaks", "(I)I"⟩, 10), (⟨"DictationBeltModel", "loses", "(I)V"⟩, 10), (⟨"DictationBeltModel", "placeOf", "(I)I"⟩, 10), (⟨"DictationBeltModel", "isRecording", "(I)Z"⟩, 10), (⟨"DictationBeltModel", "told", "(I)I"⟩, 10), (⟨"DictationBeltModel", "ofPlace", "(III)I"⟩, 10), (⟨"DictationBeltModel", "cellAt", "(II)I"⟩, 10), (⟨"DictationBeltModel", "goes", "(I)I"⟩, 10), (⟨"DictationBeltModel", "plays", "()I"⟩, 10), (⟨"DictationBeltModel", "goesBack", "(I)I"⟩, 10), (⟨"DictationBeltModel", "correctedCells", "()I"⟩, 10)]
theorem lw_r2 : ∀ q ∈ lw_privs_2, lw_okq q := List.forall_mem_cons.mpr ⟨lw_p16, List.forall_mem_cons.mpr ⟨lw_p17, List.forall_mem_cons.mpr ⟨lw_p18, List.forall_mem_cons.mpr ⟨lw_p19, List.forall_mem_cons.mpr ⟨lw_p20, List.forall_mem_cons.mpr ⟨lw_p21, List.forall_mem_cons.mpr ⟨lw_p22, List.forall_mem_cons.mpr ⟨lw_p23, List.forall_mem_cons.mpr ⟨lw_p24, List.forall_mem_cons.mpr ⟨lw_p25, List.forall_mem_cons.mpr ⟨lw_p26, List.forall_mem_cons.mpr ⟨lw_p27, List.forall_mem_cons.mpr ⟨lw_p28, List.forall_mem_cons.mpr ⟨lw_p29, List.forall_mem_cons.mpr ⟨lw_p30, List.forall_mem_cons.mpr ⟨lw_p31, fun _ h => absurd h List.not_mem_nil⟩⟩⟩⟩⟩⟩⟩⟩⟩⟩⟩⟩⟩⟩⟩⟩
theorem lw_p32 : lw_okq (⟨"DictationBeltModel", "loser", "()I"⟩, 10) := ⟨⟨by decide +kernel, by decide +kernel⟩, List.mem_of_getElem? (i := 673) (by decide +kernel), List.mem_of_getElem? (i := 928) (by decide +kernel), List.mem_of_getElem? (i := 929) (by decide +kernel)⟩
theorem lw_p33 : lw_okq (⟨"DictationBeltModel", "loss", "(II)I"⟩, 10) := ⟨⟨by decide +kernel, by decide +kernel⟩, List.mem_of_getElem? (i := 673) (by decide +kernel), List.mem_of_getElem? (i := 936) (by decide +kernel), List.mem_of_getElem? (i := 937) (by decide +kernel)⟩
theorem lw_p34 : lw_okq (⟨"DictationBeltModel", "areOrders", "()Z"⟩, 10) := ⟨⟨by decide +kernel, by decide +kernel⟩, List.mem_of_getElem? (i := 673) (by decide +kernel), List.mem_of_getElem? (i := 956) (by decide +kernel), List.mem_of_getElem? (i := 957) (by decide +kernel)⟩
theorem lw_p35 : lw_okq (⟨"DictationBeltModel", "readsOrder", "()Z"⟩, 10) := ⟨⟨by decide +kernel, by decide +kernel⟩, List.mem_of_getElem? (i := 673) (by decide +kernel), List.mem_of_getElem? (i := 960) (by decide +kernel), List.mem_of_getElem? (i := 961) (by decide +kernel)⟩
theorem lw_p36 : lw_okq (⟨"DictationBeltModel", "sign", "()I"⟩, 10) := ⟨⟨by decide +kernel, by decide +kernel⟩, List.mem_of_getElem? (i := 673) (by decide +kernel), List.mem_of_getElem? (i := 964) (by decide +kernel), List.mem_of_getElem? (i := 965) (by decide +kernel)⟩
theorem lw_p37 : lw_okq (⟨"DictationBeltModel", "takes", "(I)Z"⟩, 10) := ⟨⟨by decide +kernel, by decide +kernel⟩, List.mem_of_getElem? (i := 673) (by decide +kernel), List.mem_of_getElem? (i := 968) (by decide +kernel), List.mem_of_getElem? (i := 969) (by decide +kernel)⟩
theorem lw_p38 : lw_okq (⟨"DictationBeltModel", "number", "(II)I"⟩, 10) := ⟨⟨by decide +kernel, by decide +kernel⟩, List.mem_of_getElem? (i := 673) (by decide +kernel), List.mem_of_getElem? (i := 972) (by decide +kernel), List.mem_of_getElem? (i := 973) (by decide +kernel)⟩
theorem lw_p39 : lw_okq (⟨"DictationBeltModel", "can", "()Z"⟩, 10) := ⟨⟨by decide +kernel, by decide +kernel⟩, List.mem_of_getElem? (i := 673) (by decide +kernel), List.mem_of_getElem? (i := 980) (by decide +kernel), List.mem_of_getElem? (i := 981) (by decide +kernel)⟩
theorem lw_p40 : lw_okq (⟨"DictationBeltModel", "does", "()V"⟩, 10) := ⟨⟨by decide +kernel, by decide +kernel⟩, List.mem_of_getElem? (i := 673) (by decide +kernel), List.mem_of_getElem? (i := 984) (by decide +kernel), List.mem_of_getElem? (i := 985) (by decide +kernel)⟩
theorem lw_p41 : lw_okq (⟨"DictationBeltModel", "mix", "(J)V"⟩, 10) := ⟨⟨by decide +kernel, by decide +kernel⟩, List.mem_of_getElem? (i := 673) (by decide +kernel), List.mem_of_getElem? (i := 1001) (by decide +kernel), List.mem_of_getElem? (i := 1002) (by decide +kernel)⟩
def lw_privs_3 : List (MethodName × Nat) := [(⟨"DictationBeltModel", "loser", "()I"⟩, 10), (⟨"DictationBeltModel", "loss", "(II)I"⟩, 10), (⟨"DictationBeltModel", "areOrders", "()Z"⟩, 10), (⟨"DictationBeltModel", "readsOrder", "()Z"⟩, 10), (⟨"DictationBeltModel", "sign", "()I"⟩, 10), (⟨"DictationBeltModel", "takes", "(I)Z"⟩, 10), (⟨"DictationBeltModel", "number", "(II)I"⟩, 10), (⟨"DictationBeltModel", "can", "()Z"⟩, 10), (⟨"DictationBeltModel", "does", "()V"⟩, 10), (⟨"DictationBeltModel", "mix", "(J)V"⟩, 10)]
theorem lw_r3 : ∀ q ∈ lw_privs_3, lw_okq q := List.forall_mem_cons.mpr ⟨lw_p32, List.forall_mem_cons.mpr ⟨lw_p33, List.forall_mem_cons.mpr ⟨lw_p34, List.forall_mem_cons.mpr ⟨lw_p35, List.forall_mem_cons.mpr ⟨lw_p36, List.forall_mem_cons.mpr ⟨lw_p37, List.forall_mem_cons.mpr ⟨lw_p38, List.forall_mem_cons.mpr ⟨lw_p39, List.forall_mem_cons.mpr ⟨lw_p40, List.forall_mem_cons.mpr ⟨lw_p41, fun _ h => absurd h List.not_mem_nil⟩⟩⟩⟩⟩⟩⟩⟩⟩⟩
def lw_privs : List (MethodName × Nat) := lw_privs_1 ++ (lw_privs_2 ++ (lw_privs_3))
def lw_tbl : List Cond := k2_sels lw_privs ++ tables_1
theorem lw_privs_ok : ∀ q ∈ lw_privs, lw_okq q := by
  show ∀ q ∈ lw_privs_1 ++ (lw_privs_2 ++ (lw_privs_3)), lw_okq q
  exact List.forall_mem_append.mpr ⟨lw_r1, List.forall_mem_append.mpr ⟨lw_r2, lw_r3⟩⟩
/-- the streams that the claim lets the run draw from -/
abbrev lw_cs : List Choice := [Jvm.Choice.named "NaN.bits"]
theorem lw_bits : nanBits ∈ lw_cs := by first | decide | exact List.mem_cons_self | simp [lw_cs, nanBits]
-- ===== end of PART A; then your names; then what follows =====
end
section
/-! ===== BEGIN words of one list among another's, by their places ===== -/
theorem goodIn_r {big : List Cond} (ws : List Cond) (ps : List Nat) (hp : ws = ps.filterMap (fun i => big[i]?)) (h : ws.all goodWord = true) : GoodIn big ws := by
  intro w hw
  have h1 := List.all_eq_true.mp h w hw
  rw [hp] at hw
  obtain ⟨i, -, hi⟩ := List.mem_filterMap.mp hw
  have hm : w ∈ big := by first | exact List.mem_of_getElem? hi | exact List.getElem?_mem hi
  exact ⟨hm, good_of_word h1⟩
theorem goodIn_app {big a b : List Cond} (ha : GoodIn big a) (hb : GoodIn big b) : GoodIn big (a ++ b) := fun w h => (List.mem_append.mp h).elim (ha w) (hb w)
theorem goodIn_ca {big a b : List Cond} {c : Cond} (ha : GoodIn big (c :: a)) (hb : GoodIn big b) : GoodIn big (c :: (a ++ b)) := fun w h => (List.mem_cons.mp h).elim (fun e => ha w (List.mem_cons.mpr (Or.inl e))) (fun h => (List.mem_append.mp h).elim (fun h => ha w (List.mem_cons.mpr (Or.inr h))) (hb w))
theorem goodIn_sub {big ws : List Cond} (hm : ∀ w ∈ ws, w ∈ big) (h : ws.all goodWord = true) : GoodIn big ws := fun w hw => ⟨hm w hw, good_of_word (List.all_eq_true.mp h w hw)⟩
/-! ===== END ===== -/

/-! ===== BEGIN exceptions that leave a method, and their catching by the caller (launches without stack traces) ===== -/
section VXA
/-! The laws vx_back, vx_callV, vx_callS, vx_callSW, vx_throw0, vx_throwS follow proofs of the library, with one case more: JvmDerived/Free/Laws.lean (Back.of_free), Shelf42/LK1.lean (callV, callS), Shelf/KitTraced.lean (throwNew0V, throwNewS). -/
/-- where a method has thrown q: the class by its name, the cell, what was written, the world -/
def vx_T (XC : String → State → State → Prop) (st : State) (q : Addr) (t : State) (mc ms : Nat) (free : Addr → Prop) : Prop :=
  ∃ (E : String) (ce : Cell) (L : List Loc), XC E st t ∧ t.heap[q]? = some ce ∧ ce.vm = .none ∧ st.vm.findClass E = some ce.cls ∧ st.WarmedH t.vm ∧ st.sameButNew ({ t with vm := st.vm } : State) L mc ms ∧ ∀ z ∈ L, free z.base
def vx_Q (Qc : Array Value → State → Outcome → State → Prop) (XC : String → State → State → Prop) (mc ms : Nat) (free : Addr → Prop) : Array Value → State → Outcome → State → Prop := fun a st o t =>
  (Qc a st o t ∧ ∃ L, FrameEnd st o t L mc ms ∧ ∀ q ∈ L, free q.base) ∨ ∃ q, o = .threw q ∧ vx_T XC st q t mc ms free
/-- a callee that returns or throws -/
def vx_Met (l : Launch) (y : MethodName) (ws : List Cond) (rm : Room) (Pc : Array Value → State → Prop) (Qc : Array Value → State → Outcome → State → Prop) (XC : String → State → State → Prop) (mc ms : Nat) (free : Addr → Prop) : Prop :=
  MetFree l y (headSpec ws rm) Pc (fun _ _ _ _ _ => True) (vx_Q Qc XC mc ms free)
def vx_Post (XC : String → State → State → Prop) (mc ms : Nat) (free : Addr → Prop) : Pt → Array Value → Addr → Pt → Prop := fun A a q B =>
  ∃ (g : JFrame) (mk : MethodId) (t : State) (L : List Loc) (E : String) (ce : Cell), B.U.heap = t.heap ∧ B.U.vm = t.vm ∧ XC E (A.U.calling g mk a) t ∧ t.heap[q]? = some ce ∧ ce.vm = .none ∧ A.U.vm.findClass E = some ce.cls ∧ B.locs = A.locs ++ L ∧ (∀ z ∈ L, free z.base) ∧ B.cells = A.cells + mc ∧ B.slots = A.slots + ms
def vx_Back (l : Launch) (R : Room) (p : Program) (e : Env) (below : List Frame) (s : State) (sargs : Array Value) (y : MethodName) (len W9 : Nat)
    (Pre : Pt → Array Value → Prop) (Post : Pt → Array Value → Option Value → Pt → Prop) (PostX : Pt → Array Value → Addr → Pt → Prop) : Prop :=
  ∀ (m : MethodId) (meth : Method) (c : Code) (A : Pt) (g : JFrame) (ig : Instr) (mk : MethodId) (a : Array Value),
    Stand p l e R s m sargs below meth c A.U A.locs A.cells A.slots → g.method = m → g.locals.size = c.maxLocals → decode c.code g.pc = .ok (ig, len) →
    2 * g.monitorRoom + (g.stack.map fun v => v.category).sum ≤ W9 → A.U.methodNamed? y = some mk → Pre A a →
    (∃ (v : Option Value) (B : Pt), Stand p l e R s m sargs below meth c B.U B.locs B.cells B.slots ∧ Post A a v B ∧
      Steps p.tables e below (doInvoke e (A.U.setTop g) [] mk a).1 (B.U.setTop { g with pc := g.pc + len, stack := v.toList ++ g.stack })) ∨
    (∃ (q : Addr) (B : Pt), Stand p l e R s m sargs below meth c B.U B.locs B.cells B.slots ∧ PostX A a q B ∧
      Steps p.tables e below (doInvoke e (A.U.setTop g) [] mk a).1 ((B.U.setTop g).pushFrame (.throwing q)))
section Payer
variable {l : Launch} {R : Room} {p : Program} {e : Env} {below : List Frame} {s : State} {sargs : Array Value} {y : MethodName} {len W9 : Nat}
theorem vx_back {ws : List Cond} {rm : Room} {Pc : Array Value → State → Prop} {Qc : Array Value → State → Outcome → State → Prop} {XC : String → State → State → Prop} {mc ms : Nat} {free : Addr → Prop} {bytes : ByteArray} {maxL : Nat} {ret : Option FieldType}
    (hM : vx_Met l y ws rm Pc Qc XC mc ms free) (hblind : FrameBlind Pc) (hrc : rm.cells = mc) (hrs : rm.slots = ms)
    (hframes : rm.frames + 1 ≤ R.frames) (hlocals : W9 + (maxL + 11) + rm.locals ≤ R.locals)
    (hws : ∀ w ∈ ws, ∀ a' U, s.WarmedH U.vm → w.before a' U = true) (hcode : Cond.code y bytes maxL ret ∈ ws) (hinit : ∀ a' U, s.WarmedH U.vm → (Cond.initialized y.cls).before a' U = true) :
    vx_Back l R p e below s sargs y len W9 (PreOf R mc ms Pc) (PostOf Qc mc ms free) (vx_Post XC mc ms free) := by
  intro m meth c A g ig mk a X hg hsize hdg hW hn hp
  have h1 : (headSpec ws rm).pre.before a A.U = true := atoms_intro fun w hw => hws w hw _ _ X.warmed
  have h2 : (Cond.code y bytes maxL ret).before a A.U = true := hws _ hcode _ _ X.warmed
  have h3 : (Cond.initialized y.cls).before a A.U = true := hinit _ _ X.warmed
  have h4 : A.cells + (headSpec ws rm).room.cells ≤ R.cells := by rw [show (headSpec ws rm).room.cells = mc from hrc]; exact hp.1
  have h5 : A.slots + (headSpec ws rm).room.slots ≤ R.slots := by rw [show (headSpec ws rm).room.slots = ms from hrs]; exact hp.2.1
  have hPc : Pc a (A.U.calling g mk a) := hblind _ _ _ _ hp.2.2
  obtain ⟨U, Ls, c0, s0⟩ := A
  dsimp only [Pt.U, Pt.locs, Pt.cells, Pt.slots] at h1 h2 h3 h4 h5 X hn hPc ⊢
  obtain ⟨methY, cY, hmY, hcY, -, hlY, -, -, -, -⟩ := Cond.code_spec hn h2
  obtain ⟨kY, hkY, -⟩ := className_of_methodNamed hn
  have hinitY : kY.init = .initialized := Cond.initialized_spec (findClass_of_methodNamed hn) hkY h3
  have h : At U g.method c below := by rw [hg]; exact X.here
  have hlocals9 : W9 + (maxL + 11) + (headSpec ws rm).room.locals ≤ R.locals := hlocals
  have happ : (headSpec ws rm).appliesLoose y e.platform (U.calling g mk a) = true :=
    Spec.appliesLoose_calling (g := g) h hdg hn hkY hinitY
      (X.room_calling (g := g) (R' := (headSpec ws rm).room) hsize hmY hcY hframes (by rw [hlY]; omega) h4 h5) h1
  obtain ⟨mid, hmid⟩ := h.above
  have hfr : (U.setTop g).frames = (.java g :: mid) ++ below := by rw [State.frames_setTop' g h.top, hmid]; rfl
  obtain ⟨o, s₂, hsteps, -, hend, hq⟩ := Steps.callFree hM p X.admits X.cas X.clock (acts := []) hfr happ hPc trivial
  have hq' : vx_Q Qc XC mc ms free a (U.calling g mk a) o s₂ := hq
  rw [State.frames_setTop' g h.top] at hend
  obtain ⟨g₀, hg0⟩ := Option.isSome_iff_exists.mp h.top
  obtain ⟨r, hr⟩ := State.topJava?_eq_some.mp hg0
  have hr' : (({ U with heap := s₂.heap, slotsUsed := s₂.slotsUsed } : State).setVm s₂.vm).frames = .java g₀ :: r := hr
  rcases hq' with ⟨hqc, L, hfe, hL⟩ | ⟨q, rfl, E, ce, L, hx, hce, hcv, hcl, hW₂, hsm, hL⟩
  · obtain ⟨⟨v, rfl⟩, hW₂, e2, q2, q3, q4, q5, q6⟩ := id hfe
    have e3 : s₂ = ({ (U.calling g mk a).setFrames s₂.frames with heap := s₂.heap, slotsUsed := s₂.slotsUsed } : State).setVm s₂.vm := by
      have : s₂ = ({ s₂ with vm := (U.calling g mk a).vm } : State).setVm s₂.vm := rfl
      rw [e2] at this
      exact this
    obtain ⟨c₂, i₂, len₂, hc₂, hd₂, hf₂⟩ := hend
    have hW' : U.WarmedH s₂.vm := hW₂
    have hcc : c₂ = c := by
      have h1 : s₂.code? g.method = U.code? g.method := by
        rw [State.code?_eq, State.code?_eq, hW'.alike.method?]
      exact Option.some.inj (hc₂.symm.trans (h1.trans h.code))
    subst hcc
    have hlen : len₂ = len := by rw [hdg] at hd₂; cases hd₂; rfl
    subst hlen
    have hs₂ : s₂ = (({ U with heap := s₂.heap, slotsUsed := s₂.slotsUsed } : State).setVm s₂.vm).setTop { g with pc := g.pc + len₂, stack := v.toList ++ g.stack } := by
      refine e3.trans ?_
      rw [hf₂, State.calling_eq h.top, State.setFrames_setFrames, State.setTop_of_frames _ hr', hr]
      rfl
    have hsame : U.sameButNew ({ U with heap := s₂.heap, slotsUsed := s₂.slotsUsed } : State) L mc ms := by
      refine ⟨?_, q2, q3, q4, q5, q6⟩
      obtain ⟨t, ht, -⟩ := State.frames_cons hr
      show ({ U with heap := s₂.heap, slotsUsed := s₂.slotsUsed } : State) = { U.setFrames U.frames with heap := s₂.heap, slotsUsed := s₂.slotsUsed }
      rw [State.setFrames_self ht]
    subst hg
    refine Or.inl ⟨v, ⟨(({ U with heap := s₂.heap, slotsUsed := s₂.slotsUsed } : State).setVm s₂.vm), Ls ++ L, c0 + mc, s0 + ms⟩,
      ⟨X.admits, X.cas, X.clock, X.frames, X.room, X.hears, X.method, X.code, (X.here.setHeapUsed s₂.heap s₂.slotsUsed).setVm hW'.alike, X.tail, State.WarmedH.trans X.warmed hW', X.limits, X.bytes, X.same.trans (hsame.setVm s.vm)⟩,
      ⟨g, mk, s₂, L, rfl, rfl, hqc, rfl, hL, rfl, rfl⟩, ?_⟩
    show Steps p.tables e below _ ((({ U with heap := s₂.heap, slotsUsed := s₂.slotsUsed } : State).setVm s₂.vm).setTop { g with pc := g.pc + len₂, stack := v.toList ++ g.stack })
    rw [← hs₂]
    exact hsteps
  · obtain ⟨e2, q2, q3, q4, q5, q6⟩ := id hsm
    have e3 : s₂ = ({ (U.calling g mk a).setFrames s₂.frames with heap := s₂.heap, slotsUsed := s₂.slotsUsed } : State).setVm s₂.vm := by
      have : s₂ = ({ s₂ with vm := (U.calling g mk a).vm } : State).setVm s₂.vm := rfl
      rw [e2] at this
      exact this
    have hf₂ : s₂.frames = .throwing q :: .java g :: U.frames.tail := hend
    have hW' : U.WarmedH s₂.vm := hW₂
    have hs₂ : s₂ = ((({ U with heap := s₂.heap, slotsUsed := s₂.slotsUsed } : State).setVm s₂.vm).setTop g).pushFrame (.throwing q) := by
      refine e3.trans ?_
      rw [hf₂, State.calling_eq h.top, State.setFrames_setFrames, State.pushFrame, State.frames_setTop _ hr', State.setTop_of_frames _ hr', State.setFrames_setFrames, hr]
      rfl
    have hsame : U.sameButNew ({ U with heap := s₂.heap, slotsUsed := s₂.slotsUsed } : State) L mc ms := by
      refine ⟨?_, q2, q3, q4, q5, q6⟩
      obtain ⟨t, ht, -⟩ := State.frames_cons hr
      show ({ U with heap := s₂.heap, slotsUsed := s₂.slotsUsed } : State) = { U.setFrames U.frames with heap := s₂.heap, slotsUsed := s₂.slotsUsed }
      rw [State.setFrames_self ht]
    subst hg
    refine Or.inr ⟨q, ⟨(({ U with heap := s₂.heap, slotsUsed := s₂.slotsUsed } : State).setVm s₂.vm), Ls ++ L, c0 + mc, s0 + ms⟩,
      ⟨X.admits, X.cas, X.clock, X.frames, X.room, X.hears, X.method, X.code, (X.here.setHeapUsed s₂.heap s₂.slotsUsed).setVm hW'.alike, X.tail, State.WarmedH.trans X.warmed hW', X.limits, X.bytes, X.same.trans (hsame.setVm s.vm)⟩,
      ⟨g, mk, s₂, L, E, ce, rfl, rfl, hx, hce, hcv, hcl, rfl, hL, rfl, rfl⟩, ?_⟩
    show Steps p.tables e below _ (((({ U with heap := s₂.heap, slotsUsed := s₂.slotsUsed } : State).setVm s₂.vm).setTop g).pushFrame (.throwing q))
    rw [← hs₂]
    exact hsteps
end Payer
section Calls
variable {p : Program} {l : Launch} {e : Env} {R : Room} {s : State} {m : MethodId} {args : Array Value} {below : List Frame} {meth : Method} {c : Code} {T : State} {locs : List Loc} {cells slots : Nat}
theorem vx_callV (X : Stand p l e R s m args below meth c T locs cells slots) (hexec : p.tables.exec = Jvm.exec) {own C : String} {index : Nat} {y : MethodName} {bytes : ByteArray} {maxL : Nat} {ret : Option FieldType}
    (hown : s.vm.findClass own = some m.cls) (hlink : (Cond.methodLink own index y).before args s = true) (hinst : (Cond.instanceMethod y).before args s = true) (hsel : (Cond.selects C y y).before args s = true)
    (hcode : (Cond.code y bytes maxL ret).before args s = true) (hy : y.cls ≠ "java/lang/invoke/MethodHandle" ∧ y.cls ≠ "java/lang/invoke/VarHandle")
    {W9 : Nat} {Pre : Pt → Array Value → Prop} {Post : Pt → Array Value → Option Value → Pt → Prop} {PostX : Pt → Array Value → Addr → Pt → Prop} (hK : vx_Back l R p e below s args y 3 W9 Pre Post PostX)
    {b : Addr} {cellB : Cell} (hcell : T.heap[b]? = some cellB) (hobj : cellB.vm.isStatics = false) (hcls : s.vm.findClass C = some cellB.cls)
    {g : JFrame} (hg : g.method = m) (hsize : g.locals.size = c.maxLocals) {argsL rest : List Value} (hlen : ∀ sig, parseMethodDescriptor y.desc = some sig → argsL.length = sig.parameters.length)
    (hstack : g.stack = argsL.reverse ++ .ref b :: rest) (hW : 2 * g.monitorRoom + (rest.map fun v => v.category).sum ≤ W9) (hdg : decode c.code g.pc = .ok (.invokevirtual index, 3))
    (hpre : ∀ vm₁, s.WarmedH vm₁ → Pre ⟨T.setVm vm₁, locs, cells, slots⟩ (Value.ref b :: argsL).toArray) :
    (∃ (v : Option Value) (vm₁ : Vm) (B : Pt), s.WarmedH vm₁ ∧ Stand p l e R s m args below meth c B.U B.locs B.cells B.slots ∧ Post ⟨T.setVm vm₁, locs, cells, slots⟩ (Value.ref b :: argsL).toArray v B ∧
      ∀ target, Steps p.tables e below (B.U.setTop { g with pc := g.pc + 3, stack := v.toList ++ rest }) target → Steps p.tables e below (T.setTop g) target) ∨
    (∃ (q : Addr) (vm₁ : Vm) (B : Pt), s.WarmedH vm₁ ∧ Stand p l e R s m args below meth c B.U B.locs B.cells B.slots ∧ PostX ⟨T.setVm vm₁, locs, cells, slots⟩ (Value.ref b :: argsL).toArray q B ∧
      Steps p.tables e below (T.setTop g) ((B.U.setTop { g with stack := rest }).pushFrame (.throwing q))) := by
  obtain ⟨mk, methM, hnamed, hmethM, hstM, habM⟩ := Cond.instanceMethod_spec hinst
  obtain ⟨methM', cM, hmethM', -, -, -, -, -, -, hsigM⟩ := Cond.code_spec hnamed hcode
  cases hmethM.symm.trans hmethM'
  obtain ⟨c2, r2, m2, q1, q2, q3, q4, kP, hkP, hkPi⟩ := Cond.selects_spec hsel
  cases hcls.symm.trans q1
  cases (State.methodFound?_of_named hnamed hy).symm.trans q2
  cases hnamed.symm.trans q3
  have hselP : selectMethod e.platform s.vm cellB.cls mk = .method mk := by rw [Launch.admits_selectMethod X.admits]; exact q4
  obtain ⟨vm₁, X₁, hstep₁⟩ := X.invokevirtual hexec hown hlink hnamed hmethM hstM hkP hkPi hy (a := b) (cell := cellB) hcell
    (fun z h => by rw [h] at hobj; cases hobj) hselP hmethM habM hkP hkPi (g := g) hg (argsL := argsL) (rest := rest) (hlen _ hsigM) hstack hdg
  rcases hK m meth c ⟨T.setVm vm₁, locs, cells, slots⟩ { g with stack := rest } (.invokevirtual index) mk (Value.ref b :: argsL).toArray X₁ hg hsize hdg hW (X₁.named hnamed) (hpre vm₁ X₁.warmed) with ⟨v, B, X', hpost, hsteps⟩ | ⟨q, B, X', hpost, hsteps⟩
  · exact Or.inl ⟨v, vm₁, B, X₁.warmed, X', hpost, fun target h => hstep₁ _ fun acts => by rw [doInvoke_state]; exact hsteps.trans h⟩
  · exact Or.inr ⟨q, vm₁, B, X₁.warmed, X', hpost, hstep₁ _ fun acts => by rw [doInvoke_state]; exact hsteps⟩
theorem vx_callS (X : Stand p l e R s m args below meth c T locs cells slots) (hexec : p.tables.exec = Jvm.exec) {own : String} {index : Nat} {y : MethodName} {bytes : ByteArray} {maxL : Nat} {ret : Option FieldType}
    (hown : s.vm.findClass own = some m.cls) (hlink : (Cond.methodLink own index y).before args s = true) (hstat : (Cond.static y).before args s = true) (hinit : (Cond.initialized y.cls).before args s = true)
    (hcode : (Cond.code y bytes maxL ret).before args s = true) (hy : y.cls ≠ "java/lang/invoke/MethodHandle" ∧ y.cls ≠ "java/lang/invoke/VarHandle")
    {W9 : Nat} {Pre : Pt → Array Value → Prop} {Post : Pt → Array Value → Option Value → Pt → Prop} {PostX : Pt → Array Value → Addr → Pt → Prop} (hK : vx_Back l R p e below s args y 3 W9 Pre Post PostX)
    {g : JFrame} (hg : g.method = m) (hsize : g.locals.size = c.maxLocals) {argsL rest : List Value} (hlen : ∀ sig, parseMethodDescriptor y.desc = some sig → argsL.length = sig.parameters.length)
    (hstack : g.stack = argsL.reverse ++ rest) (hW : 2 * g.monitorRoom + (rest.map fun v => v.category).sum ≤ W9) (hdg : decode c.code g.pc = .ok (.invokestatic index, 3))
    (hpre : ∀ vm₁, s.WarmedH vm₁ → Pre ⟨T.setVm vm₁, locs, cells, slots⟩ argsL.toArray) :
    (∃ (v : Option Value) (vm₁ : Vm) (B : Pt), s.WarmedH vm₁ ∧ Stand p l e R s m args below meth c B.U B.locs B.cells B.slots ∧ Post ⟨T.setVm vm₁, locs, cells, slots⟩ argsL.toArray v B ∧
      ∀ target, Steps p.tables e below (B.U.setTop { g with pc := g.pc + 3, stack := v.toList ++ rest }) target → Steps p.tables e below (T.setTop g) target) ∨
    (∃ (q : Addr) (vm₁ : Vm) (B : Pt), s.WarmedH vm₁ ∧ Stand p l e R s m args below meth c B.U B.locs B.cells B.slots ∧ PostX ⟨T.setVm vm₁, locs, cells, slots⟩ argsL.toArray q B ∧
      Steps p.tables e below (T.setTop g) ((B.U.setTop { g with stack := rest }).pushFrame (.throwing q))) := by
  obtain ⟨mk, hnamed⟩ := Cond.code_named hcode
  obtain ⟨methM, cM, hmethM, -, -, -, -, -, -, hsigM⟩ := Cond.code_spec hnamed hcode
  have hstatic : methM.isStatic = true := Cond.static_spec hnamed hmethM hstat
  obtain ⟨kP, hkP, -⟩ := className_of_methodNamed hnamed
  have hinitP : kP.init = .initialized := Cond.initialized_spec (findClass_of_methodNamed hnamed) hkP hinit
  obtain ⟨vm₁, X₁, hstep₁⟩ := X.invokestatic hexec hown hlink hnamed hmethM hstatic hkP hinitP hy (g := g) hg (argsL := argsL) (rest := rest) (hlen _ hsigM) hstack hdg
  rcases hK m meth c ⟨T.setVm vm₁, locs, cells, slots⟩ { g with stack := rest } (.invokestatic index) mk argsL.toArray X₁ hg hsize hdg hW (X₁.named hnamed) (hpre vm₁ X₁.warmed) with ⟨v, B, X', hpost, hsteps⟩ | ⟨q, B, X', hpost, hsteps⟩
  · exact Or.inl ⟨v, vm₁, B, X₁.warmed, X', hpost, fun target h => hstep₁ _ fun acts => by rw [doInvoke_state]; exact hsteps.trans h⟩
  · exact Or.inr ⟨q, vm₁, B, X₁.warmed, X', hpost, hstep₁ _ fun acts => by rw [doInvoke_state]; exact hsteps⟩
end Calls
theorem vx_cls {s : State} {T : State} {vm₁ : Vm} {E : String} {k : ClassId} (hW : s.WarmedH vm₁) (h : (T.setVm vm₁).vm.findClass E = some k) : s.vm.findClass E = some k := by
  have h1 : vm₁.findClass E = some k := h
  rw [hW.alike.findClass] at h1
  exact h1
/-- the method's frame g, with q thrown over it -/
def vx_W (p : Program) (l : Launch) (e : Env) (R : Room) (s : State) (m : MethodId) (args : Array Value) (below : List Frame) (meth : Method) (c : Code) (H : Heap) (locs : List Loc) (cells slots : Nat) (Q : State → Prop) (g : JFrame) (q : Addr) : Prop :=
  ∀ T : State, T.heap = H → Stand p l e R s m args below meth c T locs cells slots → ∃ t, Steps p.tables e below ((T.setTop g).pushFrame (.throwing q)) t ∧ Q t
def vx_Run (p : Program) (l : Launch) (e : Env) (R : Room) (s : State) (m : MethodId) (args : Array Value) (below : List Frame) (meth : Method) (c : Code) (H : Heap) (locs : List Loc) (cells slots mc ms : Nat) (g : JFrame) (rest : List Value) (Qa : State → Outcome → State → Prop) (XC : String → State → State → Prop) (free : Addr → Prop) : Prop :=
  ∀ T : State, T.heap = H → Stand p l e R s m args below meth c T locs cells slots →
    (∃ (v : Option Value) (st₀ t T' : State) (L : List Loc), st₀.heap = H ∧ Stand p l e R s m args below meth c T' (locs ++ L) (cells + mc) (slots + ms) ∧ (∀ q ∈ L, free q.base) ∧ T'.heap = t.heap ∧ T'.vm = t.vm ∧ Qa st₀ (.returned v) t ∧
      Goes p e below T g T' { g with pc := g.pc + 3, stack := v.toList ++ rest }) ∨
    (∃ (q : Addr) (st₀ t T' : State) (L : List Loc) (E : String) (ce : Cell), st₀.heap = H ∧ Stand p l e R s m args below meth c T' (locs ++ L) (cells + mc) (slots + ms) ∧ (∀ z ∈ L, free z.base) ∧ T'.heap = t.heap ∧ T'.vm = t.vm ∧ XC E st₀ t ∧ t.heap[q]? = some ce ∧ ce.vm = .none ∧ s.vm.findClass E = some ce.cls ∧
      Steps p.tables e below (T.setTop g) ((T'.setTop { g with stack := rest }).pushFrame (.throwing q)))
def vx_X {S : Type} (px : S → Prop) (B : String → S → State → Prop) (A : Nat → Prop) : String → State → State → Prop := fun E st t => ∃ u : S, px u ∧ B E u t ∧ va_F A st t
section Runs
variable {p : Program} {l : Launch} {e : Env} {R : Room} {s : State} {m : MethodId} {args : Array Value} {below : List Frame} {meth : Method} {c : Code} {H : Heap} {locs : List Loc} {cells slots : Nat}
variable {y : MethodName} {bytes cc : ByteArray} {maxL nL mc ms n index : Nat} {ret : Option FieldType} {ws : List Cond} {rm : Room} {Pc : Array Value → State → Prop} {Qc : Array Value → State → Outcome → State → Prop} {XC : String → State → State → Prop} {free : Addr → Prop} {Ts : List Cond} {own C : String} {b : Addr} {As rest : List Value} {g : JFrame}
theorem vx_callBack (cb : CallB R s args own index y bytes maxL ret ws rm mc ms n) (hM : vx_Met l y ws rm Pc Qc XC mc ms free) (hbl : FrameBlind Pc) : vx_Back l R p e below s args y 3 8 (PreOf R mc ms Pc) (PostOf Qc mc ms free) (vx_Post XC mc ms free) := by
  obtain ⟨hrc, hrs, hfr, hlo, hws, hcw, -, hini, -⟩ := cb
  exact vx_back (bytes := bytes) (maxL := maxL) (ret := ret) hM hbl hrc hrs hfr hlo hws hcw (fun a' U hW => word_at hW (Or.inl (by first | rfl | simp [Cond.onTables, Cond.keeps, Cond.steady])) hini)
theorem vx_runV (S : CallFix p m c cc nL s args Ts own) (hM : vx_Met l y ws rm Pc Qc XC mc ms free) (cw : CallW R s args own C index y bytes maxL ret ws rm mc ms n) (hp : PreV s H C b Pc As)
    (hg : g.method = m) (hn : As.length = n) (hsize : g.locals.size = nL) (hstack : g.stack = As.reverse ++ .ref b :: rest) (hW : 2 * g.monitorRoom + (rest.map fun v => v.category).sum ≤ 8) (hdg : decode cc g.pc = .ok (.invokevirtual index, 3)) (hf : cells + mc ≤ R.cells ∧ slots + ms ≤ R.slots) :
    vx_Run p l e R s m args below meth c H locs cells slots mc ms g rest (Qc (Value.ref b :: As).toArray) XC free := by
  have hK : vx_Back l R p e below s args y 3 8 (PreOf R mc ms Pc) (PostOf Qc mc ms free) (vx_Post XC mc ms free) := vx_callBack cw.1 hM hp.1
  obtain ⟨⟨-, -, -, -, -, -, hcode, -, hy, hlen, hl⟩, hin, hse⟩ := cw
  obtain ⟨hx, hb, hml, ho, -⟩ := S
  obtain ⟨-, ⟨cellB, hcB, hoB, hclB⟩, hPc⟩ := hp
  intro T hT X
  rcases vx_callV X hx (C := C) (bytes := bytes) (maxL := maxL) (ret := ret) ho hl hin hse hcode hy hK (by rw [hT]; exact hcB) hoB hclB hg (hsize.trans hml.symm) (argsL := As) (rest := rest) (fun sig h => hn.trans (hlen sig h)) hstack hW (by rw [hb]; exact hdg)
    (fun vm₁ hW₁ => ⟨hf.1, hf.2, hPc (T.setVm vm₁) hT hW₁⟩) with ⟨v, vm₁, ⟨U', l2, c2, s2⟩, hW₁, X', ⟨g', mk, t, L, e1, e2, hq, h1, hL, h2, h3⟩, st⟩ | ⟨q, vm₁, ⟨U', l2, c2, s2⟩, hW₁, X', ⟨g', mk, t, L, E, ce, e1, e2, hq, hce, hcv, hcl, h1, hL, h2, h3⟩, st⟩
  · dsimp only [Pt.U, Pt.locs, Pt.cells, Pt.slots] at X' e1 e2 h1 h2 h3 st
    subst h1; subst h2; subst h3
    exact Or.inl ⟨v, (T.setVm vm₁).calling g' mk (Value.ref b :: As).toArray, t, U', L, hT, X', hL, e1, e2, hq, st⟩
  · dsimp only [Pt.U, Pt.locs, Pt.cells, Pt.slots] at X' e1 e2 h1 h2 h3 st hcl
    subst h1; subst h2; subst h3
    exact Or.inr ⟨q, (T.setVm vm₁).calling g' mk (Value.ref b :: As).toArray, t, U', L, E, ce, hT, X', hL, e1, e2, hq, hce, hcv, vx_cls hW₁ hcl, st⟩
theorem vx_runS (S : CallFix p m c cc nL s args Ts own) (hM : vx_Met l y ws rm Pc Qc XC mc ms free) (cw : CallB R s args own index y bytes maxL ret ws rm mc ms n ∧ (Cond.static y).before args s = true) (hp : PreS s H Pc As)
    (hg : g.method = m) (hn : As.length = n) (hsize : g.locals.size = nL) (hstack : g.stack = As.reverse ++ rest) (hW : 2 * g.monitorRoom + (rest.map fun v => v.category).sum ≤ 8) (hdg : decode cc g.pc = .ok (.invokestatic index, 3)) (hf : cells + mc ≤ R.cells ∧ slots + ms ≤ R.slots) :
    vx_Run p l e R s m args below meth c H locs cells slots mc ms g rest (Qc As.toArray) XC free := by
  have hK : vx_Back l R p e below s args y 3 8 (PreOf R mc ms Pc) (PostOf Qc mc ms free) (vx_Post XC mc ms free) := vx_callBack cw.1 hM hp.1
  obtain ⟨⟨-, -, -, -, -, -, hcode, hini, hy, hlen, hl⟩, hstt⟩ := cw
  obtain ⟨hx, hb, hml, ho, -⟩ := S
  intro T hT X
  rcases vx_callS X hx (bytes := bytes) (maxL := maxL) (ret := ret) ho hl hstt hini hcode hy hK hg (hsize.trans hml.symm) (argsL := As) (rest := rest) (fun sig h => hn.trans (hlen sig h)) hstack hW (by rw [hb]; exact hdg)
    (fun vm₁ hW₁ => ⟨hf.1, hf.2, hp.2 (T.setVm vm₁) hT hW₁⟩) with ⟨v, vm₁, ⟨U', l2, c2, s2⟩, hW₁, X', ⟨g', mk, t, L, e1, e2, hq, h1, hL, h2, h3⟩, st⟩ | ⟨q, vm₁, ⟨U', l2, c2, s2⟩, hW₁, X', ⟨g', mk, t, L, E, ce, e1, e2, hq, hce, hcv, hcl, h1, hL, h2, h3⟩, st⟩
  · dsimp only [Pt.U, Pt.locs, Pt.cells, Pt.slots] at X' e1 e2 h1 h2 h3 st
    subst h1; subst h2; subst h3
    exact Or.inl ⟨v, (T.setVm vm₁).calling g' mk As.toArray, t, U', L, hT, X', hL, e1, e2, hq, st⟩
  · dsimp only [Pt.U, Pt.locs, Pt.cells, Pt.slots] at X' e1 e2 h1 h2 h3 st hcl
    subst h1; subst h2; subst h3
    exact Or.inr ⟨q, (T.setVm vm₁).calling g' mk As.toArray, t, U', L, E, ce, hT, X', hL, e1, e2, hq, hce, hcv, vx_cls hW₁ hcl, st⟩
end Runs
section Rows
variable {p : Program} {l : Launch} {e : Env} {R : Room} {s : State} {m : MethodId} {args : Array Value} {below : List Frame} {meth : Method} {c : Code} {H : Heap} {locs : List Loc} {cells slots : Nat} {Q : State → Prop}
variable {mc ms : Nat} {free : Addr → Prop} {A0 A1 : Nat → Prop} {H0 : Heap} {a : Array Value} {pc : Nat} {ls : Array Slot} {st0 rest : List Value}
theorem vx_keep {st₀ t T' : State} {L : List Loc} (h0 : st₀.heap = H) (e1 : T'.heap = t.heap) (hS : va_S A0 H0 H locs) (hA : ∀ q, q < H.size → A1 q → A0 q) (hf : ∀ q, free q → A0 q) (hL : ∀ q ∈ L, free q.base) (hF : va_F A1 st₀ t) :
    H.size ≤ T'.heap.size ∧ (∀ q : Nat, q < H.size → ¬ A1 q → T'.heap[q]? = H[q]?) ∧ va_S A0 H0 T'.heap (locs ++ L) := by
  obtain ⟨hz, hk⟩ := hF
  rw [h0] at hz hk
  exact ⟨by rw [e1]; exact hz, fun q h1 h2 => by rw [e1]; exact hk q h1 h2,
    ⟨Nat.le_trans hS.1 (by rw [e1]; exact hz), fun q h1 h2 => by rw [e1, hk q (Nat.lt_of_lt_of_le h1 hS.1) (fun z => h2 (hA q (Nat.lt_of_lt_of_le h1 hS.1) z))]; exact hS.2.1 q h1 h2, fun q hq => by
      rcases List.mem_append.mp hq with h | h
      · exact hS.2.2 q h
      · exact hf _ (hL q h)⟩⟩
theorem vx_calli {S SX : Type} {post : Int32 → S → Prop} {px : SX → Prop} {B : S → State → Prop} {BX : String → SX → State → Prop} {AX : Nat → Prop} (hr : vx_Run p l e R s m args below meth c H locs cells slots mc ms (F0 m pc ls st0) rest (va_Qi post B A1 a) (vx_X px BX AX) free) (hS : va_S A0 H0 H locs) (hA : ∀ q, q < H.size → A1 q → A0 q) (hf : ∀ q, free q → A0 q) (hAX : ∀ q, q < H.size → AX q → A0 q)
    (kx : ∀ (E : String) (ce : Cell) (q9 : Addr) (u : SX) (t : State) (H1 : Heap) (locs1 : List Loc), t.heap = H1 → s.vm.Alike t.vm → px u → BX E u t → H.size ≤ H1.size → (∀ q : Nat, q < H.size → ¬ AX q → H1[q]? = H[q]?) → va_S A0 H0 H1 locs1 → H1[q9]? = some ce → ce.vm = .none → s.vm.findClass E = some ce.cls → vx_W p l e R s m args below meth c H1 locs1 (cells + mc) (slots + ms) Q (F0 m pc ls rest) q9)
    (kk : ∀ (r : Int32) (u : S) (t : State) (H1 : Heap) (locs1 : List Loc), t.heap = H1 → s.vm.Alike t.vm → post r u → B u t → H.size ≤ H1.size → (∀ q : Nat, q < H.size → ¬ A1 q → H1[q]? = H[q]?) → va_S A0 H0 H1 locs1 → W p l e R s m args below meth c H1 locs1 (cells + mc) (slots + ms) Q (F0 m (pc + 3) ls (.int r :: rest))) : W p l e R s m args below meth c H locs cells slots Q (F0 m pc ls st0) := by
  intro T hT X
  rcases hr T hT X with ⟨v, st₀, t, T', L, h0, X', hL, e1, e2, ⟨⟨r, u, hv, hp, hb⟩, hF⟩, st⟩ | ⟨q, st₀, t, T', L, E, ce, h0, X', hL, e1, e2, ⟨u, hp, hb, hF⟩, hce, hcv, hcl, st⟩
  · cases hv
    obtain ⟨k1, k2, k3⟩ := vx_keep h0 e1 hS hA hf hL hF
    obtain ⟨t2, a1, b1⟩ := kk r u t T'.heap (locs ++ L) e1.symm (by rw [← e2]; exact X'.warmed.alike) hp hb k1 k2 k3 T' rfl X'
    exact ⟨t2, st t2 a1, b1⟩
  · obtain ⟨k1, k2, k3⟩ := vx_keep h0 e1 hS hAX hf hL hF
    obtain ⟨t2, a1, b1⟩ := kx E ce q u t T'.heap (locs ++ L) e1.symm (by rw [← e2]; exact X'.warmed.alike) hp hb k1 k2 k3 (by rw [e1]; exact hce) hcv hcl T' rfl X'
    exact ⟨t2, st.trans a1, b1⟩
theorem vx_calll {S SX : Type} {post : Int64 → S → Prop} {px : SX → Prop} {B : S → State → Prop} {BX : String → SX → State → Prop} {AX : Nat → Prop} (hr : vx_Run p l e R s m args below meth c H locs cells slots mc ms (F0 m pc ls st0) rest (va_Ql post B A1 a) (vx_X px BX AX) free) (hS : va_S A0 H0 H locs) (hA : ∀ q, q < H.size → A1 q → A0 q) (hf : ∀ q, free q → A0 q) (hAX : ∀ q, q < H.size → AX q → A0 q)
    (kx : ∀ (E : String) (ce : Cell) (q9 : Addr) (u : SX) (t : State) (H1 : Heap) (locs1 : List Loc), t.heap = H1 → s.vm.Alike t.vm → px u → BX E u t → H.size ≤ H1.size → (∀ q : Nat, q < H.size → ¬ AX q → H1[q]? = H[q]?) → va_S A0 H0 H1 locs1 → H1[q9]? = some ce → ce.vm = .none → s.vm.findClass E = some ce.cls → vx_W p l e R s m args below meth c H1 locs1 (cells + mc) (slots + ms) Q (F0 m pc ls rest) q9)
    (kk : ∀ (r : Int64) (u : S) (t : State) (H1 : Heap) (locs1 : List Loc), t.heap = H1 → s.vm.Alike t.vm → post r u → B u t → H.size ≤ H1.size → (∀ q : Nat, q < H.size → ¬ A1 q → H1[q]? = H[q]?) → va_S A0 H0 H1 locs1 → W p l e R s m args below meth c H1 locs1 (cells + mc) (slots + ms) Q (F0 m (pc + 3) ls (.long r :: rest))) : W p l e R s m args below meth c H locs cells slots Q (F0 m pc ls st0) := by
  intro T hT X
  rcases hr T hT X with ⟨v, st₀, t, T', L, h0, X', hL, e1, e2, ⟨⟨r, u, hv, hp, hb⟩, hF⟩, st⟩ | ⟨q, st₀, t, T', L, E, ce, h0, X', hL, e1, e2, ⟨u, hp, hb, hF⟩, hce, hcv, hcl, st⟩
  · cases hv
    obtain ⟨k1, k2, k3⟩ := vx_keep h0 e1 hS hA hf hL hF
    obtain ⟨t2, a1, b1⟩ := kk r u t T'.heap (locs ++ L) e1.symm (by rw [← e2]; exact X'.warmed.alike) hp hb k1 k2 k3 T' rfl X'
    exact ⟨t2, st t2 a1, b1⟩
  · obtain ⟨k1, k2, k3⟩ := vx_keep h0 e1 hS hAX hf hL hF
    obtain ⟨t2, a1, b1⟩ := kx E ce q u t T'.heap (locs ++ L) e1.symm (by rw [← e2]; exact X'.warmed.alike) hp hb k1 k2 k3 (by rw [e1]; exact hce) hcv hcl T' rfl X'
    exact ⟨t2, st.trans a1, b1⟩
theorem vx_callf {S SX : Type} {post : UInt32 → S → Prop} {px : SX → Prop} {B : S → State → Prop} {BX : String → SX → State → Prop} {AX : Nat → Prop} (hr : vx_Run p l e R s m args below meth c H locs cells slots mc ms (F0 m pc ls st0) rest (va_Qf post B A1 a) (vx_X px BX AX) free) (hS : va_S A0 H0 H locs) (hA : ∀ q, q < H.size → A1 q → A0 q) (hf : ∀ q, free q → A0 q) (hAX : ∀ q, q < H.size → AX q → A0 q)
    (kx : ∀ (E : String) (ce : Cell) (q9 : Addr) (u : SX) (t : State) (H1 : Heap) (locs1 : List Loc), t.heap = H1 → s.vm.Alike t.vm → px u → BX E u t → H.size ≤ H1.size → (∀ q : Nat, q < H.size → ¬ AX q → H1[q]? = H[q]?) → va_S A0 H0 H1 locs1 → H1[q9]? = some ce → ce.vm = .none → s.vm.findClass E = some ce.cls → vx_W p l e R s m args below meth c H1 locs1 (cells + mc) (slots + ms) Q (F0 m pc ls rest) q9)
    (kk : ∀ (r : UInt32) (u : S) (t : State) (H1 : Heap) (locs1 : List Loc), t.heap = H1 → s.vm.Alike t.vm → post r u → B u t → H.size ≤ H1.size → (∀ q : Nat, q < H.size → ¬ A1 q → H1[q]? = H[q]?) → va_S A0 H0 H1 locs1 → W p l e R s m args below meth c H1 locs1 (cells + mc) (slots + ms) Q (F0 m (pc + 3) ls (.float r :: rest))) : W p l e R s m args below meth c H locs cells slots Q (F0 m pc ls st0) := by
  intro T hT X
  rcases hr T hT X with ⟨v, st₀, t, T', L, h0, X', hL, e1, e2, ⟨⟨r, u, hv, hp, hb⟩, hF⟩, st⟩ | ⟨q, st₀, t, T', L, E, ce, h0, X', hL, e1, e2, ⟨u, hp, hb, hF⟩, hce, hcv, hcl, st⟩
  · cases hv
    obtain ⟨k1, k2, k3⟩ := vx_keep h0 e1 hS hA hf hL hF
    obtain ⟨t2, a1, b1⟩ := kk r u t T'.heap (locs ++ L) e1.symm (by rw [← e2]; exact X'.warmed.alike) hp hb k1 k2 k3 T' rfl X'
    exact ⟨t2, st t2 a1, b1⟩
  · obtain ⟨k1, k2, k3⟩ := vx_keep h0 e1 hS hAX hf hL hF
    obtain ⟨t2, a1, b1⟩ := kx E ce q u t T'.heap (locs ++ L) e1.symm (by rw [← e2]; exact X'.warmed.alike) hp hb k1 k2 k3 (by rw [e1]; exact hce) hcv hcl T' rfl X'
    exact ⟨t2, st.trans a1, b1⟩
theorem vx_calld {S SX : Type} {post : UInt64 → S → Prop} {px : SX → Prop} {B : S → State → Prop} {BX : String → SX → State → Prop} {AX : Nat → Prop} (hr : vx_Run p l e R s m args below meth c H locs cells slots mc ms (F0 m pc ls st0) rest (va_Qd post B A1 a) (vx_X px BX AX) free) (hS : va_S A0 H0 H locs) (hA : ∀ q, q < H.size → A1 q → A0 q) (hf : ∀ q, free q → A0 q) (hAX : ∀ q, q < H.size → AX q → A0 q)
    (kx : ∀ (E : String) (ce : Cell) (q9 : Addr) (u : SX) (t : State) (H1 : Heap) (locs1 : List Loc), t.heap = H1 → s.vm.Alike t.vm → px u → BX E u t → H.size ≤ H1.size → (∀ q : Nat, q < H.size → ¬ AX q → H1[q]? = H[q]?) → va_S A0 H0 H1 locs1 → H1[q9]? = some ce → ce.vm = .none → s.vm.findClass E = some ce.cls → vx_W p l e R s m args below meth c H1 locs1 (cells + mc) (slots + ms) Q (F0 m pc ls rest) q9)
    (kk : ∀ (r : UInt64) (u : S) (t : State) (H1 : Heap) (locs1 : List Loc), t.heap = H1 → s.vm.Alike t.vm → post r u → B u t → H.size ≤ H1.size → (∀ q : Nat, q < H.size → ¬ A1 q → H1[q]? = H[q]?) → va_S A0 H0 H1 locs1 → W p l e R s m args below meth c H1 locs1 (cells + mc) (slots + ms) Q (F0 m (pc + 3) ls (.double r :: rest))) : W p l e R s m args below meth c H locs cells slots Q (F0 m pc ls st0) := by
  intro T hT X
  rcases hr T hT X with ⟨v, st₀, t, T', L, h0, X', hL, e1, e2, ⟨⟨r, u, hv, hp, hb⟩, hF⟩, st⟩ | ⟨q, st₀, t, T', L, E, ce, h0, X', hL, e1, e2, ⟨u, hp, hb, hF⟩, hce, hcv, hcl, st⟩
  · cases hv
    obtain ⟨k1, k2, k3⟩ := vx_keep h0 e1 hS hA hf hL hF
    obtain ⟨t2, a1, b1⟩ := kk r u t T'.heap (locs ++ L) e1.symm (by rw [← e2]; exact X'.warmed.alike) hp hb k1 k2 k3 T' rfl X'
    exact ⟨t2, st t2 a1, b1⟩
  · obtain ⟨k1, k2, k3⟩ := vx_keep h0 e1 hS hAX hf hL hF
    obtain ⟨t2, a1, b1⟩ := kx E ce q u t T'.heap (locs ++ L) e1.symm (by rw [← e2]; exact X'.warmed.alike) hp hb k1 k2 k3 (by rw [e1]; exact hce) hcv hcl T' rfl X'
    exact ⟨t2, st.trans a1, b1⟩
theorem vx_callv {S SX : Type} {post : S → Prop} {px : SX → Prop} {B : S → State → Prop} {BX : String → SX → State → Prop} {AX : Nat → Prop} (hr : vx_Run p l e R s m args below meth c H locs cells slots mc ms (F0 m pc ls st0) rest (va_Qv post B A1 a) (vx_X px BX AX) free) (hS : va_S A0 H0 H locs) (hA : ∀ q, q < H.size → A1 q → A0 q) (hf : ∀ q, free q → A0 q) (hAX : ∀ q, q < H.size → AX q → A0 q)
    (kx : ∀ (E : String) (ce : Cell) (q9 : Addr) (u : SX) (t : State) (H1 : Heap) (locs1 : List Loc), t.heap = H1 → s.vm.Alike t.vm → px u → BX E u t → H.size ≤ H1.size → (∀ q : Nat, q < H.size → ¬ AX q → H1[q]? = H[q]?) → va_S A0 H0 H1 locs1 → H1[q9]? = some ce → ce.vm = .none → s.vm.findClass E = some ce.cls → vx_W p l e R s m args below meth c H1 locs1 (cells + mc) (slots + ms) Q (F0 m pc ls rest) q9)
    (kk : ∀ (u : S) (t : State) (H1 : Heap) (locs1 : List Loc), t.heap = H1 → s.vm.Alike t.vm → post u → B u t → H.size ≤ H1.size → (∀ q : Nat, q < H.size → ¬ A1 q → H1[q]? = H[q]?) → va_S A0 H0 H1 locs1 → W p l e R s m args below meth c H1 locs1 (cells + mc) (slots + ms) Q (F0 m (pc + 3) ls (rest))) : W p l e R s m args below meth c H locs cells slots Q (F0 m pc ls st0) := by
  intro T hT X
  rcases hr T hT X with ⟨v, st₀, t, T', L, h0, X', hL, e1, e2, ⟨⟨u, hv, hp, hb⟩, hF⟩, st⟩ | ⟨q, st₀, t, T', L, E, ce, h0, X', hL, e1, e2, ⟨u, hp, hb, hF⟩, hce, hcv, hcl, st⟩
  · cases hv
    obtain ⟨k1, k2, k3⟩ := vx_keep h0 e1 hS hA hf hL hF
    obtain ⟨t2, a1, b1⟩ := kk u t T'.heap (locs ++ L) e1.symm (by rw [← e2]; exact X'.warmed.alike) hp hb k1 k2 k3 T' rfl X'
    exact ⟨t2, st t2 a1, b1⟩
  · obtain ⟨k1, k2, k3⟩ := vx_keep h0 e1 hS hAX hf hL hF
    obtain ⟨t2, a1, b1⟩ := kx E ce q u t T'.heap (locs ++ L) e1.symm (by rw [← e2]; exact X'.warmed.alike) hp hb k1 k2 k3 (by rw [e1]; exact hce) hcv hcl T' rfl X'
    exact ⟨t2, st.trans a1, b1⟩
/-- caught by the row x of this method's table; the rows ahead don't take it -/
theorem vx_catch {own name : String} {E : String} {ce : Cell} {q : Addr} (hown : s.vm.findClass own = some m.cls) (pre : List ExceptionTableEntry) (x : ExceptionTableEntry) (suf : List ExceptionTableEntry) (hsplit : c.exceptionTable.toList = pre ++ x :: suf)
    (hpass : ∀ z ∈ pre, covers z pc = false ∨ (z.catchType ≠ 0 ∧ ∃ nm : String, (Cond.classLink own z.catchType nm).before args s = true ∧ va_Nc E nm s)) (hx : covers x pc = true) (h0 : x.catchType ≠ 0)
    (hlink : (Cond.classLink own x.catchType name).before args s = true) (hcast : (Cond.castable E name).before args s = true) (hcell : H[q]? = some ce) (hv : ce.vm = .none) (hcl : s.vm.findClass E = some ce.cls)
    (kk : W p l e R s m args below meth c H locs cells slots Q (F0 m x.handlerPc ls [.ref q])) : vx_W p l e R s m args below meth c H locs cells slots Q (F0 m pc ls rest) q := by
  intro T hT X
  have hpl : e.platform.magicAccessors = ({} : Platform).magicAccessors := by rw [X.admits.platform]
  obtain ⟨c3, c4, hc3, hc4, hasg⟩ := Cond.castable_spec hcast
  cases Option.some.inj (hc3.symm.trans hcl)
  obtain ⟨c5, hc5, hcl5⟩ := Cond.classLink_spec hown hlink e.platform hpl
  cases Option.some.inj (hc4.symm.trans hc5)
  obtain ⟨vm', X', st⟩ := X.thenCaughtThrough q (g := F0 m pc ls rest) rfl (Steps.refl _) (by rw [hT]; exact hcell) (by rw [hv]; rfl) (by obtain ⟨k9, h9, -⟩ := Vm.findClass_spec hcl; exact ⟨k9, h9⟩) pre x suf hsplit
    (fun z hz => by
      rcases hpass z hz with h | ⟨hz0, nm, hl1, hn1⟩
      · exact Or.inl h
      · obtain ⟨c6, hc6, hcl6⟩ := Cond.classLink_spec hown hl1 e.platform hpl
        obtain ⟨a8, b8, h1, h2, h3⟩ := hn1
        cases Option.some.inj (h1.symm.trans hcl)
        cases Option.some.inj (h2.symm.trans hc6)
        exact Or.inr ⟨hz0, _, hcl6, h3⟩) hx (Or.inr ⟨h0, c4, hcl5, hasg⟩)
  obtain ⟨t, a1, b1⟩ := kk (T.setVm vm') hT X'
  exact ⟨t, st.trans a1, b1⟩
end Rows
section Ends
variable {p : Program} {l : Launch} {e : Env} {R : Room} {s : State} {m : MethodId} {args : Array Value} {below : List Frame} {meth : Method} {c : Code} {H : Heap} {locs : List Loc} {cells slots : Nat} {Q : State → Prop}
variable {mc ms : Nat} {free : Addr → Prop} {A0 A1 : Nat → Prop} {H0 : Heap} {a : Array Value} {ls : Array Slot} {st0 rest : List Value}
variable {Qc : Array Value → State → Outcome → State → Prop} {XC : String → State → State → Prop}
/-- what a body that may throw owes at its end -/
def vx_MQ (below : List Frame) (Qc : Array Value → State → Outcome → State → Prop) (XC : String → State → State → Prop) (a : Array Value) (s : State) (mc ms : Nat) (free : Addr → Prop) : State → Prop := fun t =>
  ∃ o, t.status = .running ∧ Ended t below o ∧ vx_Q Qc XC mc ms free a s o t
theorem vx_ret {g : JFrame} {mc ms : Nat} (k : W p l e R s m args below meth c H locs cells slots (MQ below Qc args s mc ms free) g) : W p l e R s m args below meth c H locs cells slots (vx_MQ below Qc XC args s mc ms free) g := by
  intro T hT X
  obtain ⟨t, a1, o, b1, b2, b3, b4⟩ := k T hT X
  exact ⟨t, a1, o, b1, b2, Or.inl ⟨b3, b4⟩⟩
/-- not caught here: it goes on to the caller -/
theorem vx_widen {g : JFrame} {q : Addr} {k n : Nat} (h1 : cells ≤ k) (h2 : slots ≤ n) (kk : vx_W p l e R s m args below meth c H locs k n Q g q) : vx_W p l e R s m args below meth c H locs cells slots Q g q := fun T hT X => kk T hT (stand_widen X h1 h2)
theorem vx_out {pc : Nat} {E : String} {ce : Cell} {q : Addr} {mc ms : Nat} (hout : ∀ x ∈ c.exceptionTable.toList, covers x pc = false) (hlocks : meth.locks = false) (hcell : H[q]? = some ce) (hv : ce.vm = .none) (hcl : s.vm.findClass E = some ce.cls)
    (hx : ∀ t : State, t.heap = H → s.vm.Alike t.vm → XC E s t) (hf : ∀ z ∈ locs, free z.base) (hc : cells ≤ mc) (hs : slots ≤ ms) :
    vx_W p l e R s m args below meth c H locs cells slots (vx_MQ below Qc XC args s mc ms free) (F0 m pc ls rest) q := by
  intro T hT X
  obtain ⟨st1, hrun, hend, hW, hsm⟩ := X.leaveThrown q (g := F0 m pc ls rest) rfl rfl rfl hout hlocks
  have hcell9 : (T.setFrames (.throwing q :: below)).heap[q]? = some ce := by
    show T.heap[q]? = some ce
    rw [hT]; exact hcell
  exact ⟨_, st1, .threw q, hrun, hend, Or.inr ⟨q, rfl, E, ce, locs, hx _ hT hW.alike, hcell9, hv, hcl, hW, hsm.mono hc hs, hf⟩⟩
theorem vx_frame {U : State} {k n : Nat} (h : s.sameButNew ({ U with vm := s.vm } : State) locs k n) : s.heap.size ≤ U.heap.size ∧ ∀ q : Nat, q < s.heap.size → (∀ z ∈ locs, z.base ≠ q) → U.heap[q]? = s.heap[q]? := by
  obtain ⟨-, h2, -, -, -, h6⟩ := h
  refine ⟨h2, fun q hq hz => ?_⟩
  obtain ⟨c9, e1, e2, e3, e4⟩ := h6 q _ (Array.getElem?_eq_getElem hq)
  have hs : c9.slots = (s.heap[q]).slots := Array.ext_getElem? fun i => e4 i fun hm => hz _ hm rfl
  have h9 : c9 = s.heap[q] := by
    rw [hs] at e2
    exact e2
  have e5 : U.heap[q]? = some c9 := e1
  rw [e5, h9, Array.getElem?_eq_getElem hq]
/-- the words of a throw but the four that speak of the heap -/
def vx_no (w : Cond) : Bool := decide (w ≠ .isRef (.static Bundle.tN "UNASSIGNED_STACK" Bundle.steD)) && decide (w ≠ .isRef (.static Bundle.tN "SUPPRESSED_SENTINEL" Bundle.listD)) && decide (w ≠ .laysStatic Bundle.tN "UNASSIGNED_STACK" Bundle.steD) && decide (w ≠ .laysStatic Bundle.tN "SUPPRESSED_SENTINEL" Bundle.listD)
def vx_at0 (own : String) (ic : Nat) (X : String) (names : List String) : List Cond := (Bundle.ownAtoms0 own ic X names).filter vx_no
def vx_atS (own : String) (ic : Nat) (X : String) (names : List String) : List Cond := (Bundle.ownAtoms own ic X names).filter vx_no
/-- a word that the tables alone decide, or a good one -/
def vx_ot (w : Cond) : Bool := w.onTables || goodWord w
theorem vx_ot_at {args a' : Array Value} {s U : State} {w : Cond} (hW : s.WarmedH U.vm) (hvm : s.vm = U.vm) (hg : vx_ot w = true) (h : w.before args s = true) : w.before a' U = true := by
  simp only [vx_ot, Bool.or_eq_true] at hg
  rcases hg with hg | hg
  · exact va_tabs hg hvm h
  · exact word_at hW (good_of_word hg) h
/-- a list's words: the good ones out of the method's own list, the others by premises of their own -/
theorem vx_hat {args : Array Value} {s : State} {L B : List Cond} (h1 : ∀ w ∈ L.filter goodWord, w.before args s = true) (h2 : ∀ w ∈ L.filter (fun w => !goodWord w), w ∈ B) (h3 : ∀ w ∈ B, w.before args s = true) : ∀ w ∈ L, w.before args s = true := by
  intro w hw
  by_cases g : goodWord w = true
  · exact h1 w (List.mem_filter.mpr ⟨hw, g⟩)
  · refine h3 w (h2 w (List.mem_filter.mpr ⟨hw, ?_⟩))
    show (!goodWord w) = true
    cases hgw : goodWord w
    · rfl
    · exact absurd hgw g
theorem vx_c {args : Array Value} {s : State} {w : Cond} {B : List Cond} (h : w.before args s = true) (t : ∀ w ∈ B, w.before args s = true) : ∀ w' ∈ w :: B, w'.before args s = true := fun w' h' => (List.mem_cons.mp h').elim (fun e => by rw [e]; exact h) (t w')
theorem vx_n {args : Array Value} {s : State} : ∀ w ∈ ([] : List Cond), w.before args s = true := fun _ h => nomatch h
theorem vx_own {args : Array Value} {s : State} {L : List Cond} (h1 : ∀ w ∈ L.filter vx_no, w.before args s = true)
    (hU : (Cond.isRef (.static Bundle.tN "UNASSIGNED_STACK" Bundle.steD)).before args s = true) (hN : (Cond.isRef (.static Bundle.tN "SUPPRESSED_SENTINEL" Bundle.listD)).before args s = true)
    (lU : (Cond.laysStatic Bundle.tN "UNASSIGNED_STACK" Bundle.steD).before args s = true) (lN : (Cond.laysStatic Bundle.tN "SUPPRESSED_SENTINEL" Bundle.listD).before args s = true) : ∀ w ∈ L, w.before args s = true := by
  intro w hw
  by_cases e1 : w = .isRef (.static Bundle.tN "UNASSIGNED_STACK" Bundle.steD)
  · rw [e1]; exact hU
  · by_cases e2 : w = .isRef (.static Bundle.tN "SUPPRESSED_SENTINEL" Bundle.listD)
    · rw [e2]; exact hN
    · by_cases e3 : w = .laysStatic Bundle.tN "UNASSIGNED_STACK" Bundle.steD
      · rw [e3]; exact lU
      · by_cases e4 : w = .laysStatic Bundle.tN "SUPPRESSED_SENTINEL" Bundle.listD
        · rw [e4]; exact lN
        · exact h1 w (List.mem_filter.mpr ⟨hw, by unfold vx_no; rw [decide_eq_true e1, decide_eq_true e2, decide_eq_true e3, decide_eq_true e4]; rfl⟩)
/-- where a static field lies, its class's statics cell in H -/
def vx_L (C n d : String) (A : Nat → Prop) (U : State) (H : Heap) : Prop := ∃ (c : ClassId) (k : Class) (i : Nat) (f : Field) (a : Nat) (cell : Cell), U.vm.findClass C = some c ∧ U.fieldFound? C n d = some (c, k, i, f) ∧ f.isStatic = true ∧ k.statics = some a ∧ H[a]? = some cell ∧ cell.vm.isStatics = true ∧ cell.cls = c ∧ f.slot < cell.slots.size ∧ k.staticTypes[f.slot]? = some f.type ∧ ¬ A a
theorem vx_L.moved {C n d : String} {A : Nat → Prop} {u U : State} {H : Heap} (hvm : u.vm.Alike U.vm) (h : vx_L C n d A u H) : vx_L C n d A U H := by
  obtain ⟨c, k, i, f, a, cell, h1, h2, h3, h4, h5, h6, h7, h8, h9, h10⟩ := h
  obtain ⟨k', hi', he⟩ := State.fieldFound?_setVm hvm h2
  exact ⟨c, k', i, f, a, cell, by rw [hvm.findClass]; exact h1, hi', h3, by rw [he]; exact h4, h5, h6, h7, h8, by rw [he]; exact h9, h10⟩
theorem vx_L.kept {C n d : String} {A : Nat → Prop} {U : State} {H H1 : Heap} (h : vx_L C n d A U H) (hq : ∀ a : Nat, a < H.size → ¬ A a → H1[a]? = H[a]?) : vx_L C n d A U H1 := by
  obtain ⟨c, k, i, f, a, cell, h1, h2, h3, h4, h5, h6, h7, h8, h9, h10⟩ := h
  exact ⟨c, k, i, f, a, cell, h1, h2, h3, h4, by rw [hq a (Array.getElem?_eq_some_iff.mp h5).1 h10]; exact h5, h6, h7, h8, h9, h10⟩
theorem vx_L.narrow {C n d : String} {A B : Nat → Prop} {U : State} {H : Heap} (h : vx_L C n d A U H) (hAB : ∀ q, B q → A q) : vx_L C n d B U H := by
  obtain ⟨c, k, i, f, a, cell, h1, h2, h3, h4, h5, h6, h7, h8, h9, h10⟩ := h
  exact ⟨c, k, i, f, a, cell, h1, h2, h3, h4, h5, h6, h7, h8, h9, fun z => h10 (hAB _ z)⟩
theorem vx_L.word {C n d : String} {A : Nat → Prop} {s : State} {args : Array Value} (h : vx_L C n d A s s.heap) : (Cond.laysStatic C n d).before args s = true := by
  obtain ⟨c, k, i, f, a, cell, h1, h2, h3, h4, h5, h6, h7, h8, h9, -⟩ := h
  show (Cond.laysStatic C n d).holds args s none s [] = true
  exact Cond.laysStatic_of h1 h2 h3 h4 h5 h6 h7 h8 h9
/-- .. and what it holds: null or some reference -/
def vx_Zq (C n d : String) (A : Nat → Prop) (U : State) (H : Heap) : Prop := va_Zq C n d A U H ∧ vx_L C n d A U H
theorem vx_Zq.moved {C n d : String} {A : Nat → Prop} {u U : State} {H : Heap} (hvm : u.vm.Alike U.vm) (h : vx_Zq C n d A u H) : vx_Zq C n d A U H := ⟨va_Zq.moved hvm h.1, vx_L.moved hvm h.2⟩
theorem vx_Zq.kept {C n d : String} {A : Nat → Prop} {U : State} {H H1 : Heap} (h : vx_Zq C n d A U H) (hq : ∀ a : Nat, a < H.size → ¬ A a → H1[a]? = H[a]?) : vx_Zq C n d A U H1 := ⟨va_Zq.kept h.1 hq, vx_L.kept h.2 hq⟩
theorem vx_Zq.narrow {C n d : String} {A B : Nat → Prop} {U : State} {H : Heap} (h : vx_Zq C n d A U H) (hAB : ∀ q, B q → A q) : vx_Zq C n d B U H := ⟨va_Zq.narrow h.1 hAB, vx_L.narrow h.2 hAB⟩
theorem vx_Zqof {args : Array Value} {s : State} {C n d : String} {A : Nat → Prop} (hl : (Cond.laysStatic C n d).before args s = true) (hini : (Cond.initialized C).before args s = true) (h : (Cond.isRef (.static C n d)).before args s = true) (hA : ∀ a : Nat, a < s.heap.size → ¬ A a) : vx_Zq C n d A s s.heap := by
  refine ⟨va_Zqof hl hini h hA, ?_⟩
  obtain ⟨c, k, i, f, a, cell, h1, h2, h3, h4, h5, h6, h7, h8, h9⟩ := Cond.laysStatic_spec hl
  exact ⟨c, k, i, f, a, cell, h1, h2, h3, h4, h5, h6, h7, h8, h9, hA a (Array.getElem?_eq_some_iff.mp h5).1⟩
theorem vx_isRef {C n d : String} {v : Value} {A : Nat → Prop} {s : State} {args : Array Value} (h : va_Z C n d v A s s.heap) (hv : v.isRef = true) : (Cond.isRef (.static C n d)).before args s = true := by
  obtain ⟨cf, kf, fi, f, a, cell, h1, h2, h3, h4, h5, h6, h7, -⟩ := h
  have he : (Term.static C n d).eval args s none [] s = some v := by
    simp [Term.eval, State.fieldNamed?, h1, h2, h4, h5, h6, h7]
  simp only [Cond.before, Cond.holds, Cond.value, he]
  cases v <;> simp_all [Value.isRef]
theorem vx_isRefq {C n d : String} {A : Nat → Prop} {s : State} {args : Array Value} (h : va_Zq C n d A s s.heap) : (Cond.isRef (.static C n d)).before args s = true := by
  rcases h with h | ⟨t, h⟩
  · exact vx_isRef h rfl
  · exact vx_isRef h rfl
/-- the same frame, seen from here: as if the method were called anew in this heap -/
theorem vx_rebase {T : State} (X : Stand p l e R s m args below meth c T locs cells slots) {R' : Room} (hf : R'.frames ≤ R.frames) (hl : R'.locals ≤ R.locals) (hc : cells + R'.cells ≤ R.cells) (hs : slots + R'.slots ≤ R.slots) :
    Stand p l e R' ((T.setVm s.vm).setFrames (.invoking m args :: below)) m args below meth c T [] 0 0 := by
  have htop : (T.setVm s.vm).topJava?.isSome := X.here.top
  have hF : ((T.setVm s.vm).setFrames (.invoking m args :: below)).frames = .invoking m args :: below := State.frames_setFrames _ (State.cur_lt_of_top htop)
  obtain ⟨g₀, hg0⟩ := Option.isSome_iff_exists.mp htop
  obtain ⟨r, hr⟩ := State.topJava?_eq_some.mp hg0
  have hl9 : e.platform.stackLimits (T.setVm s.vm).me = e.platform.stackLimits s.me := X.limits
  have hb9 : (T.setVm s.vm).me.stackBytes = s.me.stackBytes := X.bytes
  refine ⟨X.admits, X.cas, X.clock, hF, ?_, X.hears, X.method, X.code, X.here, X.tail, X.warmed, ?_, ?_, ?_⟩
  · have h := X.room
    have hU : ((T.setVm s.vm).setFrames (.invoking m args :: below)).localsInUse = s.localsInUse := by
      rw [State.localsInUse_invoking hF (meth := meth) (c := c) X.method X.code, State.localsInUse_invoking X.frames X.method X.code]
    simp only [State.hasRoom, Bool.and_eq_true, decide_eq_true_eq] at h ⊢
    obtain ⟨⟨⟨⟨h1, h2, h3, h4, h5, h6⟩, h7⟩, h8⟩, h9⟩ := h
    rw [X.frames, List.length_cons] at h2 h3
    have q1 := X.heapSize
    have q2 := X.used
    simp only [hF, hU, List.length_cons, State.stackLimits_setFrames, State.stackBytes_setFrames, hl9, hb9]
    refine ⟨⟨⟨⟨by omega, by omega, by omega, by omega, by omega, h6⟩, ?_⟩, ?_⟩, X.book⟩
    · show T.heap.size + R'.cells ≤ e.platform.maxCells
      omega
    · show T.slotsUsed + R'.slots ≤ e.platform.maxSlots
      omega
  · rw [State.stackLimits_setFrames]; rfl
  · rw [State.stackBytes_setFrames]; rfl
  · refine ⟨?_, Nat.le_refl _, Nat.le_refl _, ?_, ?_, fun a c9 h9 => ⟨c9, h9, rfl, rfl, fun _ _ => rfl⟩⟩
    · obtain ⟨t, ht, -⟩ := State.frames_cons hr
      show T.setVm s.vm = { ((T.setVm s.vm).setFrames (.invoking m args :: below)).setFrames (T.setVm s.vm).frames with heap := T.heap, slotsUsed := T.slotsUsed }
      rw [State.setFrames_setFrames, State.setFrames_self ht]
      rfl
    · show T.slotsUsed = T.slotsUsed + ((T.heap.toList.drop T.heap.size).map (·.slots.size)).sum
      rw [List.drop_eq_nil_of_le (Nat.le_of_eq Array.length_toList)]
      rfl
    · show ((T.heap.toList.drop T.heap.size).map (·.slots.size)).sum ≤ 0
      rw [List.drop_eq_nil_of_le (Nat.le_of_eq Array.length_toList)]
      exact Nat.le_refl _
/-- 'throw new E()': new; dup; invokespecial; athrow -/
theorem vx_throw0 {cc : ByteArray} {pc : Nat} (hexec : p.tables.exec = Jvm.exec) (hb : c.code = cc) (hl : l.stackTraces = false) {own cls : String} {names : List String} {ik ic mc ms : Nat} {A : Nat → Prop}
    (hown : s.vm.findClass own = some m.cls) (hcls : Bundle.fit cls = true) (hnames : ∀ n ∈ names, Bundle.fit n = true)
    (hk : (Cond.classLink own ik cls).before args s = true) (hini : (Cond.initialized cls).before args s = true) (hat : ∀ w ∈ vx_at0 own ic cls names, w.before args s = true)
    (hgood : ∀ w ∈ Cond.classLink own ik cls :: Cond.initialized cls :: vx_at0 own ic cls names, vx_ot w = true)
    (hU : vx_Zq Bundle.tN "UNASSIGNED_STACK" Bundle.steD A s s.heap) (hN : vx_Zq Bundle.tN "SUPPRESSED_SENTINEL" Bundle.listD A s s.heap) (hS : va_S A s.heap H locs) (hsize : ls.size = c.maxLocals)
    (d0 : decode cc pc = .ok (.new ik, 3)) (d3 : decode cc (pc + 3) = .ok (.dup, 1)) (d4 : decode cc (pc + 4) = .ok (.invokespecial ic, 3)) (d7 : decode cc (pc + 7) = .ok (.athrow, 1))
    (hout : ∀ x ∈ c.exceptionTable.toList, covers x (pc + 7) = false)
    (hRframes : names.length + 3 < R.frames) (hRlocals : (rest.map fun v => v.category).sum + (13 * (names.length + 1) + 42) ≤ R.locals) (hRcells : cells + 1 ≤ R.cells) (hRslots : slots + 6 ≤ R.slots) (hlocks : meth.locks = false)
    (hx : ∀ t : State, s.vm.Alike t.vm → H.size ≤ t.heap.size → (∀ q : Nat, q < H.size → t.heap[q]? = H[q]?) → XC cls s t)
    (hf : ∀ z ∈ locs, free z.base) (hc : cells + 1 ≤ mc) (hs : slots + 6 ≤ ms) :
    W p l e R s m args below meth c H locs cells slots (vx_MQ below Qc XC args s mc ms free) (F0 m pc ls rest) := by
  intro T hT X
  have htr : e.platform.stackTraces = false := (show e.platform.stackTraces = l.stackTraces by rw [X.admits.platform]).trans hl
  have Y := vx_rebase X (R' := { frames := R.frames, locals := R.locals, cells := 1, slots := 6 }) (Nat.le_refl _) (Nat.le_refl _) hRcells hRslots
  obtain ⟨s', hA⟩ : ∃ z, z = (T.setVm s.vm).setFrames (.invoking m args :: below) := ⟨_, rfl⟩
  rw [← hA] at Y
  have hvm : s'.vm = s.vm := by rw [hA]; rfl
  have hhp : s'.heap = H := by rw [hA]; exact hT
  have hW0 : s.WarmedH s'.vm := by rw [hvm]; exact State.WarmedH.refl s
  have hat' : ∀ w ∈ vx_at0 own ic cls names, w.before args s' = true := fun w hw => vx_ot_at hW0 hvm.symm (hgood w (List.mem_cons_of_mem _ (List.mem_cons_of_mem _ hw))) (hat w hw)
  have hk' : (Cond.classLink own ik cls).before args s' = true := vx_ot_at hW0 hvm.symm (hgood _ List.mem_cons_self) hk
  have hini' : (Cond.initialized cls).before args s' = true := vx_ot_at hW0 hvm.symm (hgood _ (List.mem_cons_of_mem _ List.mem_cons_self)) hini
  have hU' : vx_Zq Bundle.tN "UNASSIGNED_STACK" Bundle.steD A s' s'.heap := by rw [hhp]; exact vx_Zq.moved hW0.alike (hU.kept hS.2.1)
  have hN' : vx_Zq Bundle.tN "SUPPRESSED_SENTINEL" Bundle.listD A s' s'.heap := by rw [hhp]; exact vx_Zq.moved hW0.alike (hN.kept hS.2.1)
  have h : ∀ w ∈ Bundle.ownAtoms0 own ic cls names, w.before args s' = true := vx_own hat' (vx_isRefq hU'.1) (vx_isRefq hN'.1) hU'.2.word hN'.2.word
  have hown' : s'.vm.findClass own = some m.cls := by rw [hvm]; exact hown
  have hins : (Cond.instantiable cls 6).before args s' = true := h _ (by simp [Bundle.ownAtoms0])
  obtain ⟨vm₁, cX, kX, hfX, hkX, -, -, X₁, st1⟩ := Y.newCold hexec (own := own) (C := cls) (index := ik) (n := 6) hown' hk' hins hini'
    (g := F0 m pc ls rest) rfl (by rw [hb]; exact d0) (Nat.le_refl _) (Nat.le_refl _)
  generalize hT1 : (T.setVm vm₁).pushCell { cls := cX, slots := kX.instanceTypes.map defaultValue, vm := .none } = T1 at X₁ st1
  have hcat : (Value.ref T.heap.size).category = 1 := rfl
  have hcellA : T1.heap[T.heap.size]? = some (freshCell cX kX) := by rw [← hT1]; exact State.heap_pushCell_size _ _
  have d3' : decode c.code (pc + 3) = .ok (.dup, 1) := by rw [hb]; exact d3
  obtain ⟨U, hsteps, hrun, hend, hW, hsame, ce, hce, hO⟩ := X₁.ctorThrow0 hexec htr (own := own) (cls := cls) (names := names) (ic := ic) hown' hcls hnames h (fun x hx => nomatch hx) hfX hkX hcellA (by rw [hhp, hT]; exact Nat.le_refl _)
    (g := { method := m, pc := pc + 4, locals := ls, stack := .ref T.heap.size :: .ref T.heap.size :: rest, locked := none }) rfl hsize rfl rfl (rest := rest) rfl
    (by rw [hb]; exact d4) (by rw [hb]; exact d7) hout hRframes (by simp only [List.map_cons, List.sum_cons, hcat]; omega) hlocks
  obtain ⟨f1, f2⟩ := vx_frame hsame
  rw [hhp] at f1 f2
  have hWs : s.WarmedH U.vm := State.WarmedH.trans hW0 hW
  have hcl : s.vm.findClass cls = some ce.cls := by
    have h9 := hO.cls
    rw [hvm] at h9
    exact h9
  have hall : s.sameButNew ({ U with vm := s.vm } : State) locs mc ms := by
    subst hA
    obtain ⟨e1, e2⟩ := hsame
    rw [State.setFrames_setFrames] at e1
    have h2 : (T.setVm s.vm).sameButNew ({ U with vm := s.vm } : State) [] (0 + 1) (0 + 6) := ⟨e1, e2⟩
    have h3 := X.same.trans h2
    rw [List.append_nil] at h3
    exact h3.mono hc hs
  refine ⟨U, ?_, .threw T.heap.size, hrun, hend, Or.inr ⟨T.heap.size, rfl, cls, ce, locs, hx U hWs.alike f1 (fun q hq => f2 q hq (fun z hz => nomatch hz)), hce, hO.vm, hcl, hWs, hall, hf⟩⟩
  refine st1 _ ?_
  show Steps p.tables e below (T1.setTop { method := m, pc := pc + 3, locals := ls, stack := .ref T.heap.size :: rest, locked := none }) _
  jvm_step X₁.here [X₁.here.top, hexec, d3', Value.category]
  exact hsteps
/-- 'throw new E("text")': new; dup; ldc; invokespecial; athrow -/
theorem vx_throwS {cc : ByteArray} {pc : Nat} (hexec : p.tables.exec = Jvm.exec) (hb : c.code = cc) (hl : l.stackTraces = false) {own cls text : String} {names : List String} {ik is ic mc ms sa : Nat} {A : Nat → Prop}
    (hown : s.vm.findClass own = some m.cls) (hcls : Bundle.fit cls = true) (hnames : ∀ n ∈ names, Bundle.fit n = true)
    (hk : (Cond.classLink own ik cls).before args s = true) (hini : (Cond.initialized cls).before args s = true) (hstr : vk_R own is text sa s) (hat : ∀ w ∈ vx_atS own ic cls names, w.before args s = true)
    (hgood : ∀ w ∈ Cond.classLink own ik cls :: Cond.initialized cls :: vx_atS own ic cls names, vx_ot w = true)
    (hU : vx_Zq Bundle.tN "UNASSIGNED_STACK" Bundle.steD A s s.heap) (hN : vx_Zq Bundle.tN "SUPPRESSED_SENTINEL" Bundle.listD A s s.heap) (hS : va_S A s.heap H locs) (hsize : ls.size = c.maxLocals)
    (d0 : decode cc pc = .ok (.new ik, 3)) (d3 : decode cc (pc + 3) = .ok (.dup, 1)) (d4 : decode cc (pc + 4) = .ok (.ldc is, 2)) (d6 : decode cc (pc + 6) = .ok (.invokespecial ic, 3)) (d9 : decode cc (pc + 9) = .ok (.athrow, 1))
    (hout : ∀ x ∈ c.exceptionTable.toList, covers x (pc + 9) = false)
    (hRframes : names.length + 3 < R.frames) (hRlocals : (rest.map fun v => v.category).sum + (13 * (names.length + 1) + 43) ≤ R.locals) (hRcells : cells + 1 ≤ R.cells) (hRslots : slots + 6 ≤ R.slots) (hlocks : meth.locks = false)
    (hx : ∀ t : State, s.vm.Alike t.vm → H.size ≤ t.heap.size → (∀ q : Nat, q < H.size → t.heap[q]? = H[q]?) → XC cls s t)
    (hf : ∀ z ∈ locs, free z.base) (hc : cells + 1 ≤ mc) (hs : slots + 6 ≤ ms) :
    W p l e R s m args below meth c H locs cells slots (vx_MQ below Qc XC args s mc ms free) (F0 m pc ls rest) := by
  intro T hT X
  have htr : e.platform.stackTraces = false := (show e.platform.stackTraces = l.stackTraces by rw [X.admits.platform]).trans hl
  have Y := vx_rebase X (R' := { frames := R.frames, locals := R.locals, cells := 1, slots := 6 }) (Nat.le_refl _) (Nat.le_refl _) hRcells hRslots
  obtain ⟨s', hA⟩ : ∃ z, z = (T.setVm s.vm).setFrames (.invoking m args :: below) := ⟨_, rfl⟩
  rw [← hA] at Y
  have hvm : s'.vm = s.vm := by rw [hA]; rfl
  have hhp : s'.heap = H := by rw [hA]; exact hT
  have hW0 : s.WarmedH s'.vm := by rw [hvm]; exact State.WarmedH.refl s
  have hat' : ∀ w ∈ vx_atS own ic cls names, w.before args s' = true := fun w hw => vx_ot_at hW0 hvm.symm (hgood w (List.mem_cons_of_mem _ (List.mem_cons_of_mem _ hw))) (hat w hw)
  have hk' : (Cond.classLink own ik cls).before args s' = true := vx_ot_at hW0 hvm.symm (hgood _ List.mem_cons_self) hk
  have hini' : (Cond.initialized cls).before args s' = true := vx_ot_at hW0 hvm.symm (hgood _ (List.mem_cons_of_mem _ List.mem_cons_self)) hini
  have hU' : vx_Zq Bundle.tN "UNASSIGNED_STACK" Bundle.steD A s' s'.heap := by rw [hhp]; exact vx_Zq.moved hW0.alike (hU.kept hS.2.1)
  have hN' : vx_Zq Bundle.tN "SUPPRESSED_SENTINEL" Bundle.listD A s' s'.heap := by rw [hhp]; exact vx_Zq.moved hW0.alike (hN.kept hS.2.1)
  have h : ∀ w ∈ Bundle.ownAtoms own ic cls names, w.before args s' = true := vx_own hat' (vx_isRefq hU'.1) (vx_isRefq hN'.1) hU'.2.word hN'.2.word
  have hown' : s'.vm.findClass own = some m.cls := by rw [hvm]; exact hown
  have hins : (Cond.instantiable cls 6).before args s' = true := h _ (by simp [Bundle.ownAtoms])
  obtain ⟨vm₁, cX, kX, hfX, hkX, -, -, X₁, st1⟩ := Y.newCold hexec (own := own) (C := cls) (index := ik) (n := 6) hown' hk' hins hini'
    (g := F0 m pc ls rest) rfl (by rw [hb]; exact d0) (Nat.le_refl _) (Nat.le_refl _)
  generalize hT1 : (T.setVm vm₁).pushCell { cls := cX, slots := kX.instanceTypes.map defaultValue, vm := .none } = T1 at X₁ st1
  have hcat : (Value.ref T.heap.size).category = 1 := rfl
  have hcellA : T1.heap[T.heap.size]? = some (freshCell cX kX) := by rw [← hT1]; exact State.heap_pushCell_size _ _
  have d3' : decode c.code (pc + 3) = .ok (.dup, 1) := by rw [hb]; exact d3
  have d4' : decode c.code (pc + 4) = .ok (.ldc is, 2) := by rw [hb]; exact d4
  have hstr' : vk_R own is text sa s' := vk_R.warm hW0 hstr
  obtain ⟨U, hsteps, hrun, hend, hW, hsame, ce, hce, hO⟩ := X₁.ctorThrowS hexec htr (own := own) (cls := cls) (names := names) (ic := ic) hown' hcls hnames h (fun x hx => nomatch hx) hfX hkX hcellA (by rw [hhp, hT]; exact Nat.le_refl _) (msg := .ref sa) rfl
    (g := { method := m, pc := pc + 6, locals := ls, stack := .ref sa :: .ref T.heap.size :: .ref T.heap.size :: rest, locked := none }) rfl hsize rfl rfl (rest := rest) rfl
    (by rw [hb]; exact d6) (by rw [hb]; exact d9) hout hRframes (by simp only [List.map_cons, List.sum_cons, hcat]; omega) hlocks
  obtain ⟨f1, f2⟩ := vx_frame hsame
  rw [hhp] at f1 f2
  have hWs : s.WarmedH U.vm := State.WarmedH.trans hW0 hW
  have hcl : s.vm.findClass cls = some ce.cls := by
    have h9 := hO.cls
    rw [hvm] at h9
    exact h9
  have hall : s.sameButNew ({ U with vm := s.vm } : State) locs mc ms := by
    subst hA
    obtain ⟨e1, e2⟩ := hsame
    rw [State.setFrames_setFrames] at e1
    have h2 : (T.setVm s.vm).sameButNew ({ U with vm := s.vm } : State) [] (0 + 1) (0 + 6) := ⟨e1, e2⟩
    have h3 := X.same.trans h2
    rw [List.append_nil] at h3
    exact h3.mono hc hs
  refine ⟨U, ?_, .threw T.heap.size, hrun, hend, Or.inr ⟨T.heap.size, rfl, cls, ce, locs, hx U hWs.alike f1 (fun q hq => f2 q hq (fun z hz => nomatch hz)), hce, hO.vm, hcl, hWs, hall, hf⟩⟩
  refine st1 _ ?_
  show Steps p.tables e below (T1.setTop { method := m, pc := pc + 3, locals := ls, stack := .ref T.heap.size :: rest, locked := none }) _
  jvm_step X₁.here [X₁.here.top, hexec, d3', Value.category]
  exact X₁.ldcString hexec (own := own) (text := text) (index := is) (a := sa) hown' hstr'.1 hstr'.2
    (g := { method := m, pc := pc + 4, locals := ls, stack := .ref T.heap.size :: .ref T.heap.size :: rest, locked := none }) rfl d4' _ hsteps
/-- 'throw new E("text")', the text by a wide index -/
theorem vx_throwSW {cc : ByteArray} {pc : Nat} (hexec : p.tables.exec = Jvm.exec) (hb : c.code = cc) (hl : l.stackTraces = false) {own cls text : String} {names : List String} {ik is ic mc ms sa : Nat} {A : Nat → Prop}
    (hown : s.vm.findClass own = some m.cls) (hcls : Bundle.fit cls = true) (hnames : ∀ n ∈ names, Bundle.fit n = true)
    (hk : (Cond.classLink own ik cls).before args s = true) (hini : (Cond.initialized cls).before args s = true) (hstr : vk_R own is text sa s) (hat : ∀ w ∈ vx_atS own ic cls names, w.before args s = true)
    (hgood : ∀ w ∈ Cond.classLink own ik cls :: Cond.initialized cls :: vx_atS own ic cls names, vx_ot w = true)
    (hU : vx_Zq Bundle.tN "UNASSIGNED_STACK" Bundle.steD A s s.heap) (hN : vx_Zq Bundle.tN "SUPPRESSED_SENTINEL" Bundle.listD A s s.heap) (hS : va_S A s.heap H locs) (hsize : ls.size = c.maxLocals)
    (d0 : decode cc pc = .ok (.new ik, 3)) (d3 : decode cc (pc + 3) = .ok (.dup, 1)) (d4 : decode cc (pc + 4) = .ok (.ldc_w is, 3)) (d7 : decode cc (pc + 7) = .ok (.invokespecial ic, 3)) (d10 : decode cc (pc + 10) = .ok (.athrow, 1))
    (hout : ∀ x ∈ c.exceptionTable.toList, covers x (pc + 10) = false)
    (hRframes : names.length + 3 < R.frames) (hRlocals : (rest.map fun v => v.category).sum + (13 * (names.length + 1) + 43) ≤ R.locals) (hRcells : cells + 1 ≤ R.cells) (hRslots : slots + 6 ≤ R.slots) (hlocks : meth.locks = false)
    (hx : ∀ t : State, s.vm.Alike t.vm → H.size ≤ t.heap.size → (∀ q : Nat, q < H.size → t.heap[q]? = H[q]?) → XC cls s t)
    (hf : ∀ z ∈ locs, free z.base) (hc : cells + 1 ≤ mc) (hs : slots + 6 ≤ ms) :
    W p l e R s m args below meth c H locs cells slots (vx_MQ below Qc XC args s mc ms free) (F0 m pc ls rest) := by
  intro T hT X
  have htr : e.platform.stackTraces = false := (show e.platform.stackTraces = l.stackTraces by rw [X.admits.platform]).trans hl
  have Y := vx_rebase X (R' := { frames := R.frames, locals := R.locals, cells := 1, slots := 6 }) (Nat.le_refl _) (Nat.le_refl _) hRcells hRslots
  obtain ⟨s', hA⟩ : ∃ z, z = (T.setVm s.vm).setFrames (.invoking m args :: below) := ⟨_, rfl⟩
  rw [← hA] at Y
  have hvm : s'.vm = s.vm := by rw [hA]; rfl
  have hhp : s'.heap = H := by rw [hA]; exact hT
  have hW0 : s.WarmedH s'.vm := by rw [hvm]; exact State.WarmedH.refl s
  have hat' : ∀ w ∈ vx_atS own ic cls names, w.before args s' = true := fun w hw => vx_ot_at hW0 hvm.symm (hgood w (List.mem_cons_of_mem _ (List.mem_cons_of_mem _ hw))) (hat w hw)
  have hk' : (Cond.classLink own ik cls).before args s' = true := vx_ot_at hW0 hvm.symm (hgood _ List.mem_cons_self) hk
  have hini' : (Cond.initialized cls).before args s' = true := vx_ot_at hW0 hvm.symm (hgood _ (List.mem_cons_of_mem _ List.mem_cons_self)) hini
  have hU' : vx_Zq Bundle.tN "UNASSIGNED_STACK" Bundle.steD A s' s'.heap := by rw [hhp]; exact vx_Zq.moved hW0.alike (hU.kept hS.2.1)
  have hN' : vx_Zq Bundle.tN "SUPPRESSED_SENTINEL" Bundle.listD A s' s'.heap := by rw [hhp]; exact vx_Zq.moved hW0.alike (hN.kept hS.2.1)
  have h : ∀ w ∈ Bundle.ownAtoms own ic cls names, w.before args s' = true := vx_own hat' (vx_isRefq hU'.1) (vx_isRefq hN'.1) hU'.2.word hN'.2.word
  have hown' : s'.vm.findClass own = some m.cls := by rw [hvm]; exact hown
  have hins : (Cond.instantiable cls 6).before args s' = true := h _ (by simp [Bundle.ownAtoms])
  obtain ⟨vm₁, cX, kX, hfX, hkX, -, -, X₁, st1⟩ := Y.newCold hexec (own := own) (C := cls) (index := ik) (n := 6) hown' hk' hins hini'
    (g := F0 m pc ls rest) rfl (by rw [hb]; exact d0) (Nat.le_refl _) (Nat.le_refl _)
  generalize hT1 : (T.setVm vm₁).pushCell { cls := cX, slots := kX.instanceTypes.map defaultValue, vm := .none } = T1 at X₁ st1
  have hcat : (Value.ref T.heap.size).category = 1 := rfl
  have hcellA : T1.heap[T.heap.size]? = some (freshCell cX kX) := by rw [← hT1]; exact State.heap_pushCell_size _ _
  have d3' : decode c.code (pc + 3) = .ok (.dup, 1) := by rw [hb]; exact d3
  have d4' : decode c.code (pc + 4) = .ok (.ldc_w is, 3) := by rw [hb]; exact d4
  have hstr' : vk_R own is text sa s' := vk_R.warm hW0 hstr
  obtain ⟨U, hsteps, hrun, hend, hW, hsame, ce, hce, hO⟩ := X₁.ctorThrowS hexec htr (own := own) (cls := cls) (names := names) (ic := ic) hown' hcls hnames h (fun x hx => nomatch hx) hfX hkX hcellA (by rw [hhp, hT]; exact Nat.le_refl _) (msg := .ref sa) rfl
    (g := { method := m, pc := pc + 7, locals := ls, stack := .ref sa :: .ref T.heap.size :: .ref T.heap.size :: rest, locked := none }) rfl hsize rfl rfl (rest := rest) rfl
    (by rw [hb]; exact d7) (by rw [hb]; exact d10) hout hRframes (by simp only [List.map_cons, List.sum_cons, hcat]; omega) hlocks
  obtain ⟨f1, f2⟩ := vx_frame hsame
  rw [hhp] at f1 f2
  have hWs : s.WarmedH U.vm := State.WarmedH.trans hW0 hW
  have hcl : s.vm.findClass cls = some ce.cls := by
    have h9 := hO.cls
    rw [hvm] at h9
    exact h9
  have hall : s.sameButNew ({ U with vm := s.vm } : State) locs mc ms := by
    subst hA
    obtain ⟨e1, e2⟩ := hsame
    rw [State.setFrames_setFrames] at e1
    have h2 : (T.setVm s.vm).sameButNew ({ U with vm := s.vm } : State) [] (0 + 1) (0 + 6) := ⟨e1, e2⟩
    have h3 := X.same.trans h2
    rw [List.append_nil] at h3
    exact h3.mono hc hs
  refine ⟨U, ?_, .threw T.heap.size, hrun, hend, Or.inr ⟨T.heap.size, rfl, cls, ce, locs, hx U hWs.alike f1 (fun q hq => f2 q hq (fun z hz => nomatch hz)), hce, hO.vm, hcl, hWs, hall, hf⟩⟩
  refine st1 _ ?_
  show Steps p.tables e below (T1.setTop { method := m, pc := pc + 3, locals := ls, stack := .ref T.heap.size :: rest, locked := none }) _
  jvm_step X₁.here [X₁.here.top, hexec, d3', Value.category]
  exact X₁.ldcStringW hexec (own := own) (text := text) (index := is) (a := sa) hown' hstr'.1 hstr'.2
    (g := { method := m, pc := pc + 4, locals := ls, stack := .ref T.heap.size :: .ref T.heap.size :: rest, locked := none }) rfl d4' _ hsteps
end Ends
section Bodies
variable {l : Launch}
theorem vx_ofW {y : MethodName} {ws ws' : List Cond} {rm : Room} {Pc : Array Value → State → Prop} {Qc : Array Value → State → Outcome → State → Prop} {XC : String → State → State → Prop} {mc ms : Nat} {free : Addr → Prop} {cc : ByteArray} {maxL : Nat} {ret : Option FieldType}
    (hy : plainName y.cls = true) (hw : ws = Cond.code y cc maxL ret :: ws')
    (body : ∀ p e s m args below meth c s₁, BodyLoose p l y (headSpec ws rm) cc maxL ret e s m args below meth c s₁ → c.maxLocals = maxL → (∀ x ∈ c.exceptionTable.toList, False) → Pc args s →
      W p l e (headSpec ws rm).room s m args below meth c s.heap [] 0 0 (vx_MQ below Qc XC args s mc ms free) (entryFrame m args maxL)) : vx_Met l y ws rm Pc Qc XC mc ms free := by
  refine MetFree.of_bodyS (code := cc) (maxLocals := maxL) (ret := ret) hy ?_ ?_
  · intro args s m h hn
    obtain ⟨meth, c, h1, h2, h3, h4, h5, h6, -, -⟩ := Cond.code_spec hn (atoms_spec (ws := ws) h _ (by rw [hw]; exact List.mem_cons_self))
    exact ⟨meth, c, h1, h2, h3, h4, h5, h6⟩
  · intro p e s m args below meth c s₁ B hml hP _
    have hh0 : s₁.heap = s.heap := by rw [B.state]; rfl
    have ht : ∀ x ∈ c.exceptionTable.toList, False := by
      obtain ⟨meth9, c9, h1, h2, -, -, -, -, h7, -⟩ := Cond.code_spec B.named (atoms_spec (ws := ws) B.pre _ (by rw [hw]; exact List.mem_cons_self))
      cases Option.some.inj (h1.symm.trans B.method)
      cases Option.some.inj (h2.symm.trans (Stand.of_body B).code)
      intro x hx
      rw [Array.isEmpty_iff.mp h7] at hx
      cases hx
    obtain ⟨t, a1, o, b1, b2, b3⟩ := body p e s m args below meth c s₁ B hml ht hP s₁ hh0 (Stand.of_body B)
    exact ⟨t, o, a1, b1, b2, b3⟩
/-- the table of a body with handlers -/
theorem vx_table {p : Program} {x y : MethodName} {S : Spec} {cc bytes : ByteArray} {maxL maxL' : Nat} {ret ret' : Option FieldType} {e : Env} {s s₁ : State} {m : MethodId} {args : Array Value} {below : List Frame} {meth : Method} {c : Code} {hh : List (Nat × Nat × Nat × Nat)}
    (B : BodyLoose p l y S cc maxL ret e s m args below meth c s₁) (h : (Cond.codeWith y bytes maxL' ret' hh).before args s = true) : c.exceptionTable.toList = tableOf hh := by
  obtain ⟨m9, meth9, c9, hn9, h1, h2, -, -, h6, -⟩ := Cond.codeWith_spec h
  cases Option.some.inj (hn9.symm.trans B.named)
  cases Option.some.inj (h1.symm.trans B.method)
  cases Option.some.inj (h2.symm.trans (Stand.of_body B).code)
  rw [← h6, table_eq]
end Bodies
end VXA
/-! ===== END ===== -/
/-! ===== BEGIN a static call of a method with an exception table ===== -/
section VXS
variable {p : Program} {l : Launch} {e : Env} {R : Room} {s : State} {m : MethodId} {args : Array Value} {below : List Frame} {meth : Method} {c : Code} {T : State} {H : Heap} {locs : List Loc} {cells slots : Nat}
abbrev vx_CSW (R : Room) (s : State) (args : Array Value) (own : String) (index : Nat) (y : MethodName) (bytes : ByteArray) (maxL : Nat) (ret : Option FieldType) (hh : List (Nat × Nat × Nat × Nat)) (ws : List Cond) (rm : Room) (mc ms n : Nat) : Prop :=
  (rm.cells = mc ∧ rm.slots = ms ∧ rm.frames + 1 ≤ R.frames ∧ 8 + (maxL + 11) + rm.locals ≤ R.locals ∧ (∀ w ∈ ws, ∀ (a' : Array Value) (U : State), s.WarmedH U.vm → w.before a' U = true) ∧ Cond.codeWith y bytes maxL ret hh ∈ ws) ∧
  (Cond.codeWith y bytes maxL ret hh).before args s = true ∧ (Cond.initialized y.cls).before args s = true ∧ (y.cls ≠ "java/lang/invoke/MethodHandle" ∧ y.cls ≠ "java/lang/invoke/VarHandle") ∧
  (∀ sig, parseMethodDescriptor y.desc = some sig → n = sig.parameters.length) ∧ (Cond.methodLink own index y).before args s = true ∧ (Cond.static y).before args s = true
theorem vx_cwSW {own : String} {index maxL mc ms : Nat} {y : MethodName} {bytes : ByteArray} {ret : Option FieldType} {hh : List (Nat × Nat × Nat × Nat)} {Ts ws ws' : List Cond} {rm : Room} (n : Nat) (ht : ∀ w ∈ Ts, w.before args s = true) (hT : GoodIn Ts (va_wsS own index y ws)) (hw : ws = Cond.codeWith y bytes maxL ret hh :: ws') (hrc : rm.cells = mc) (hrs : rm.slots = ms)
    (hd : y.cls ≠ "java/lang/invoke/MethodHandle" ∧ y.cls ≠ "java/lang/invoke/VarHandle" ∧ (parseMethodDescriptor y.desc).map (fun d => d.parameters.length) = some n) (hR : rm.frames + 1 ≤ R.frames ∧ 8 + (maxL + 11) + rm.locals ≤ R.locals) :
    vx_CSW R s args own index y bytes maxL ret hh ws rm mc ms n := by
  have ok : ∀ w ∈ va_wsS own index y ws, w.before args s = true := fun w h => ht w (hT w h).1
  have hG : GoodIn Ts ws := fun w h => hT w (by unfold va_wsS; exact List.mem_append_right _ h)
  have hc : Cond.codeWith y bytes maxL ret hh ∈ ws := by rw [hw]; exact List.mem_cons_self
  refine ⟨⟨hrc, hrs, hR.1, hR.2, pay_in ht hG, hc⟩, ht _ (hG _ hc).1, ok _ (by simp [va_wsS]), ⟨hd.1, hd.2.1⟩, fun sig h => ?_, ok _ (by simp [va_wsS]), ok _ (by simp [va_wsS])⟩
  have h2 := hd.2.2
  rw [h] at h2
  exact (Option.some.inj h2).symm
theorem vx_callSW (X : Stand p l e R s m args below meth c T locs cells slots) (hexec : p.tables.exec = Jvm.exec) {own : String} {index : Nat} {y : MethodName} {bytes : ByteArray} {maxL : Nat} {ret : Option FieldType} {hh : List (Nat × Nat × Nat × Nat)}
    (hown : s.vm.findClass own = some m.cls) (hlink : (Cond.methodLink own index y).before args s = true) (hstat : (Cond.static y).before args s = true) (hinit : (Cond.initialized y.cls).before args s = true)
    (hcode : (Cond.codeWith y bytes maxL ret hh).before args s = true) (hy : y.cls ≠ "java/lang/invoke/MethodHandle" ∧ y.cls ≠ "java/lang/invoke/VarHandle")
    {W9 : Nat} {Pre : Pt → Array Value → Prop} {Post : Pt → Array Value → Option Value → Pt → Prop} (hK : Back l R p e below s args y 3 W9 Pre Post)
    {g : JFrame} (hg : g.method = m) (hsize : g.locals.size = c.maxLocals) {argsL rest : List Value} (hlen : ∀ sig, parseMethodDescriptor y.desc = some sig → argsL.length = sig.parameters.length)
    (hstack : g.stack = argsL.reverse ++ rest) (hW : 2 * g.monitorRoom + (rest.map fun v => v.category).sum ≤ W9) (hdg : decode c.code g.pc = .ok (.invokestatic index, 3))
    (hpre : ∀ vm₁, s.WarmedH vm₁ → Pre ⟨T.setVm vm₁, locs, cells, slots⟩ argsL.toArray) :
    ∃ (v : Option Value) (vm₁ : Vm) (B : Pt), s.WarmedH vm₁ ∧ Stand p l e R s m args below meth c B.U B.locs B.cells B.slots ∧ Post ⟨T.setVm vm₁, locs, cells, slots⟩ argsL.toArray v B ∧
      ∀ target, Steps p.tables e below (B.U.setTop { g with pc := g.pc + 3, stack := v.toList ++ rest }) target → Steps p.tables e below (T.setTop g) target := by
  obtain ⟨mk, methM, cM, hnamed, hmethM, -, -, -, -, -, -, hsigM⟩ := Cond.codeWith_spec hcode
  have hstatic : methM.isStatic = true := Cond.static_spec hnamed hmethM hstat
  obtain ⟨kP, hkP, -⟩ := className_of_methodNamed hnamed
  have hinitP : kP.init = .initialized := Cond.initialized_spec (findClass_of_methodNamed hnamed) hkP hinit
  obtain ⟨vm₁, X₁, hstep₁⟩ := X.invokestatic hexec hown hlink hnamed hmethM hstatic hkP hinitP hy (g := g) hg (argsL := argsL) (rest := rest) (hlen _ hsigM) hstack hdg
  obtain ⟨v, B, X', hpost, hsteps⟩ := hK m meth c ⟨T.setVm vm₁, locs, cells, slots⟩ { g with stack := rest } (.invokestatic index) mk argsL.toArray X₁ hg hsize hdg hW (X₁.named hnamed) (hpre vm₁ X₁.warmed)
  exact ⟨v, vm₁, B, X₁.warmed, X', hpost, fun target h => hstep₁ _ fun acts => by rw [doInvoke_state]; exact hsteps.trans h⟩
theorem vx_runSW {y : MethodName} {bytes cc : ByteArray} {maxL nL mc ms n index : Nat} {ret : Option FieldType} {hh : List (Nat × Nat × Nat × Nat)} {ws : List Cond} {rm : Room} {Pc : Array Value → State → Prop} {Qc : Array Value → State → Outcome → State → Prop} {free : Addr → Prop} {Ts : List Cond} {own : String} {As rest : List Value} {g : JFrame}
    (S : CallFix p m c cc nL s args Ts own) (hM : Met l y ws rm Pc Qc mc ms free) (cw : vx_CSW R s args own index y bytes maxL ret hh ws rm mc ms n) (hp : PreS s H Pc As)
    (hg : g.method = m) (hn : As.length = n) (hsize : g.locals.size = nL) (hstack : g.stack = As.reverse ++ rest) (hW : 2 * g.monitorRoom + (rest.map fun v => v.category).sum ≤ 8) (hdg : decode cc g.pc = .ok (.invokestatic index, 3)) (hf : cells + mc ≤ R.cells ∧ slots + ms ≤ R.slots) :
    va_Run p l e R s m args below meth c H locs cells slots mc ms g rest (Qc As.toArray) (free) := by
  obtain ⟨⟨hrc, hrs, hfr, hlo, hws, hcw⟩, hcode, hini, hy, hlen, hl, hstt⟩ := cw
  have hK : Back l R p e below s args y 3 8 (PreOf R mc ms Pc) (PostOf Qc mc ms free) := va_backW (hh := hh) (bytes := bytes) (maxL := maxL) (ret := ret) hM hp.1 hrc hrs hfr hlo hws hcw (fun a' U hW => word_at hW (Or.inl (by first | rfl | simp [Cond.onTables, Cond.keeps, Cond.steady])) hini)
  obtain ⟨hx, hb, hml, ho, -⟩ := S
  intro T hT X
  obtain ⟨v, vm₁, ⟨U', l2, c2, s2⟩, hW₁, X', ⟨g', mk, t, L, e1, e2, hq, h1, hL, h2, h3⟩, st⟩ := vx_callSW X hx (hh := hh) (bytes := bytes) (maxL := maxL) (ret := ret) ho hl hstt hini hcode hy hK hg (hsize.trans hml.symm) (argsL := As) (rest := rest) (fun sig h => hn.trans (hlen sig h)) hstack hW (by rw [hb]; exact hdg)
    (fun vm₁ hW₁ => ⟨hf.1, hf.2, hp.2 (T.setVm vm₁) hT hW₁⟩)
  dsimp only [Pt.U, Pt.locs, Pt.cells, Pt.slots] at X' e1 e2 h1 h2 h3 st
  subst h1; subst h2; subst h3
  exact ⟨v, (T.setVm vm₁).calling g' mk As.toArray, t, U', L, hT, X', hL, e1, e2, hq, st⟩
/-- not caught here, past rows that name other classes: it goes on to the caller -/
theorem vx_outP {p : Program} {l : Launch} {e : Env} {R : Room} {s : State} {m : MethodId} {args : Array Value} {below : List Frame} {meth : Method} {c : Code} {H : Heap} {locs : List Loc} {cells slots : Nat} {free : Addr → Prop} {ls : Array Slot} {rest : List Value} {Qc : Array Value → State → Outcome → State → Prop} {XC : String → State → State → Prop}
    {pc : Nat} {own E : String} {ce : Cell} {q : Addr} {mc ms : Nat} (hown : s.vm.findClass own = some m.cls) (hlocks : meth.locks = false)
    (hpass : ∀ z ∈ c.exceptionTable.toList, covers z pc = false ∨ (z.catchType ≠ 0 ∧ ∃ nm : String, (Cond.classLink own z.catchType nm).before args s = true ∧ va_Nc E nm s)) (hcell : H[q]? = some ce) (hv : ce.vm = .none) (hcl : s.vm.findClass E = some ce.cls)
    (hx : ∀ t : State, t.heap = H → s.vm.Alike t.vm → XC E s t) (hf : ∀ z ∈ locs, free z.base) (hc : cells ≤ mc) (hs : slots ≤ ms) :
    vx_W p l e R s m args below meth c H locs cells slots (vx_MQ below Qc XC args s mc ms free) (F0 m pc ls rest) q := by
  intro T hT X
  have hpl : e.platform.magicAccessors = ({} : Platform).magicAccessors := by rw [X.admits.platform]
  obtain ⟨vm', hW', X', st⟩ := X.outThrough hlocks q (g := F0 m pc ls rest) rfl rfl rfl (cell := ce) (by rw [hT]; exact hcell) (by rw [hv]; rfl)
    (by obtain ⟨k9, h9, -⟩ := Vm.findClass_spec hcl; exact ⟨k9, h9⟩) (fun z hz => by
      rcases hpass z hz with h | ⟨hz0, nm, hl1, hn1⟩
      · exact Or.inl h
      · obtain ⟨c6, hc6, hcl6⟩ := Cond.classLink_spec hown hl1 e.platform hpl
        obtain ⟨a8, b8, h1, h2, h3⟩ := hn1
        cases Option.some.inj (h1.symm.trans hcl)
        cases Option.some.inj (h2.symm.trans hc6)
        exact Or.inr ⟨hz0, _, hcl6, h3⟩)
  obtain ⟨g₀, hfr⟩ := X'.frames_eq
  have hcell9 : ((T.setVm vm').setFrames (.throwing q :: below)).heap[q]? = some ce := by
    show T.heap[q]? = some ce
    rw [hT]; exact hcell
  have hend : Ended ((T.setVm vm').setFrames (.throwing q :: below)) below (.threw q) := State.frames_setFrames _ (State.cur_lt_of_frames hfr)
  refine ⟨(T.setVm vm').setFrames (.throwing q :: below), ?_, .threw q, X'.here.running, hend, Or.inr ⟨q, rfl, E, ce, locs, hx _ hT (X'.ends _).1.alike, hcell9, hv, hcl, (X'.ends _).1, (X'.ends _).2.mono hc hs, hf⟩⟩
  rw [X.pushThrowing_eq]
  exact st
/-- a thing of a world lies in the heap -/
theorem vx_lt {D : va_G} {cl : List vw_C} {ws : va_W} {H1 : Heap} (h : va_P D cl ws H1) {k : Nat} {q : Nat × va_E} (hk : ws[k]? = some q) : q.1 < H1.size := (h k q hk).lt
end VXS
/-! ===== END ===== -/
/-! ===== BEGIN methods with a table of their own: called by a name, returning or throwing ===== -/
section VXH
/-! vx_backW, vx_callVX, vx_callSX, vx_callVW, vx_runVW, vx_runVX, vx_runSX, vx_ofWH follow the same proofs as their sisters above (Free/Laws.lean, Shelf42/LK1.lean); vx_outP calls Shelf42/NT130.lean (outThrough). -/
section
variable {l : Launch} {R : Room} {p : Program} {e : Env} {below : List Frame} {s : State} {sargs : Array Value} {y : MethodName} {len W9 : Nat}
theorem vx_backW {ws : List Cond} {rm : Room} {Pc : Array Value → State → Prop} {Qc : Array Value → State → Outcome → State → Prop} {XC : String → State → State → Prop} {mc ms : Nat} {free : Addr → Prop} {bytes : ByteArray} {maxL : Nat} {ret : Option FieldType} {hh : List (Nat × Nat × Nat × Nat)}
    (hM : vx_Met l y ws rm Pc Qc XC mc ms free) (hblind : FrameBlind Pc) (hrc : rm.cells = mc) (hrs : rm.slots = ms)
    (hframes : rm.frames + 1 ≤ R.frames) (hlocals : W9 + (maxL + 11) + rm.locals ≤ R.locals)
    (hws : ∀ w ∈ ws, ∀ a' U, s.WarmedH U.vm → w.before a' U = true) (hcode : Cond.codeWith y bytes maxL ret hh ∈ ws) (hinit : ∀ a' U, s.WarmedH U.vm → (Cond.initialized y.cls).before a' U = true) :
    vx_Back l R p e below s sargs y len W9 (PreOf R mc ms Pc) (PostOf Qc mc ms free) (vx_Post XC mc ms free) := by
  intro m meth c A g ig mk a X hg hsize hdg hW hn hp
  have h1 : (headSpec ws rm).pre.before a A.U = true := atoms_intro fun w hw => hws w hw _ _ X.warmed
  have h2 : (Cond.codeWith y bytes maxL ret hh).before a A.U = true := hws _ hcode _ _ X.warmed
  have h3 : (Cond.initialized y.cls).before a A.U = true := hinit _ _ X.warmed
  have h4 : A.cells + (headSpec ws rm).room.cells ≤ R.cells := by rw [show (headSpec ws rm).room.cells = mc from hrc]; exact hp.1
  have h5 : A.slots + (headSpec ws rm).room.slots ≤ R.slots := by rw [show (headSpec ws rm).room.slots = ms from hrs]; exact hp.2.1
  have hPc : Pc a (A.U.calling g mk a) := hblind _ _ _ _ hp.2.2
  obtain ⟨U, Ls, c0, s0⟩ := A
  dsimp only [Pt.U, Pt.locs, Pt.cells, Pt.slots] at h1 h2 h3 h4 h5 X hn hPc ⊢
  obtain ⟨m9, methY, cY, hn9, hmY, hcY, -, hlY, -⟩ := Cond.codeWith_spec h2
  cases Option.some.inj (hn9.symm.trans hn)
  obtain ⟨kY, hkY, -⟩ := className_of_methodNamed hn
  have hinitY : kY.init = .initialized := Cond.initialized_spec (findClass_of_methodNamed hn) hkY h3
  have h : At U g.method c below := by rw [hg]; exact X.here
  have hlocals9 : W9 + (maxL + 11) + (headSpec ws rm).room.locals ≤ R.locals := hlocals
  have happ : (headSpec ws rm).appliesLoose y e.platform (U.calling g mk a) = true :=
    Spec.appliesLoose_calling (g := g) h hdg hn hkY hinitY
      (X.room_calling (g := g) (R' := (headSpec ws rm).room) hsize hmY hcY hframes (by rw [hlY]; omega) h4 h5) h1
  obtain ⟨mid, hmid⟩ := h.above
  have hfr : (U.setTop g).frames = (.java g :: mid) ++ below := by rw [State.frames_setTop' g h.top, hmid]; rfl
  obtain ⟨o, s₂, hsteps, -, hend, hq⟩ := Steps.callFree hM p X.admits X.cas X.clock (acts := []) hfr happ hPc trivial
  have hq' : vx_Q Qc XC mc ms free a (U.calling g mk a) o s₂ := hq
  rw [State.frames_setTop' g h.top] at hend
  obtain ⟨g₀, hg0⟩ := Option.isSome_iff_exists.mp h.top
  obtain ⟨r, hr⟩ := State.topJava?_eq_some.mp hg0
  have hr' : (({ U with heap := s₂.heap, slotsUsed := s₂.slotsUsed } : State).setVm s₂.vm).frames = .java g₀ :: r := hr
  rcases hq' with ⟨hqc, L, hfe, hL⟩ | ⟨q, rfl, E, ce, L, hx, hce, hcv, hcl, hW₂, hsm, hL⟩
  · obtain ⟨⟨v, rfl⟩, hW₂, e2, q2, q3, q4, q5, q6⟩ := id hfe
    have e3 : s₂ = ({ (U.calling g mk a).setFrames s₂.frames with heap := s₂.heap, slotsUsed := s₂.slotsUsed } : State).setVm s₂.vm := by
      have : s₂ = ({ s₂ with vm := (U.calling g mk a).vm } : State).setVm s₂.vm := rfl
      rw [e2] at this
      exact this
    obtain ⟨c₂, i₂, len₂, hc₂, hd₂, hf₂⟩ := hend
    have hW' : U.WarmedH s₂.vm := hW₂
    have hcc : c₂ = c := by
      have h1 : s₂.code? g.method = U.code? g.method := by
        rw [State.code?_eq, State.code?_eq, hW'.alike.method?]
      exact Option.some.inj (hc₂.symm.trans (h1.trans h.code))
    subst hcc
    have hlen : len₂ = len := by rw [hdg] at hd₂; cases hd₂; rfl
    subst hlen
    have hs₂ : s₂ = (({ U with heap := s₂.heap, slotsUsed := s₂.slotsUsed } : State).setVm s₂.vm).setTop { g with pc := g.pc + len₂, stack := v.toList ++ g.stack } := by
      refine e3.trans ?_
      rw [hf₂, State.calling_eq h.top, State.setFrames_setFrames, State.setTop_of_frames _ hr', hr]
      rfl
    have hsame : U.sameButNew ({ U with heap := s₂.heap, slotsUsed := s₂.slotsUsed } : State) L mc ms := by
      refine ⟨?_, q2, q3, q4, q5, q6⟩
      obtain ⟨t, ht, -⟩ := State.frames_cons hr
      show ({ U with heap := s₂.heap, slotsUsed := s₂.slotsUsed } : State) = { U.setFrames U.frames with heap := s₂.heap, slotsUsed := s₂.slotsUsed }
      rw [State.setFrames_self ht]
    subst hg
    refine Or.inl ⟨v, ⟨(({ U with heap := s₂.heap, slotsUsed := s₂.slotsUsed } : State).setVm s₂.vm), Ls ++ L, c0 + mc, s0 + ms⟩,
      ⟨X.admits, X.cas, X.clock, X.frames, X.room, X.hears, X.method, X.code, (X.here.setHeapUsed s₂.heap s₂.slotsUsed).setVm hW'.alike, X.tail, State.WarmedH.trans X.warmed hW', X.limits, X.bytes, X.same.trans (hsame.setVm s.vm)⟩,
      ⟨g, mk, s₂, L, rfl, rfl, hqc, rfl, hL, rfl, rfl⟩, ?_⟩
    show Steps p.tables e below _ ((({ U with heap := s₂.heap, slotsUsed := s₂.slotsUsed } : State).setVm s₂.vm).setTop { g with pc := g.pc + len₂, stack := v.toList ++ g.stack })
    rw [← hs₂]
    exact hsteps
  · obtain ⟨e2, q2, q3, q4, q5, q6⟩ := id hsm
    have e3 : s₂ = ({ (U.calling g mk a).setFrames s₂.frames with heap := s₂.heap, slotsUsed := s₂.slotsUsed } : State).setVm s₂.vm := by
      have : s₂ = ({ s₂ with vm := (U.calling g mk a).vm } : State).setVm s₂.vm := rfl
      rw [e2] at this
      exact this
    have hf₂ : s₂.frames = .throwing q :: .java g :: U.frames.tail := hend
    have hW' : U.WarmedH s₂.vm := hW₂
    have hs₂ : s₂ = ((({ U with heap := s₂.heap, slotsUsed := s₂.slotsUsed } : State).setVm s₂.vm).setTop g).pushFrame (.throwing q) := by
      refine e3.trans ?_
      rw [hf₂, State.calling_eq h.top, State.setFrames_setFrames, State.pushFrame, State.frames_setTop _ hr', State.setTop_of_frames _ hr', State.setFrames_setFrames, hr]
      rfl
    have hsame : U.sameButNew ({ U with heap := s₂.heap, slotsUsed := s₂.slotsUsed } : State) L mc ms := by
      refine ⟨?_, q2, q3, q4, q5, q6⟩
      obtain ⟨t, ht, -⟩ := State.frames_cons hr
      show ({ U with heap := s₂.heap, slotsUsed := s₂.slotsUsed } : State) = { U.setFrames U.frames with heap := s₂.heap, slotsUsed := s₂.slotsUsed }
      rw [State.setFrames_self ht]
    subst hg
    refine Or.inr ⟨q, ⟨(({ U with heap := s₂.heap, slotsUsed := s₂.slotsUsed } : State).setVm s₂.vm), Ls ++ L, c0 + mc, s0 + ms⟩,
      ⟨X.admits, X.cas, X.clock, X.frames, X.room, X.hears, X.method, X.code, (X.here.setHeapUsed s₂.heap s₂.slotsUsed).setVm hW'.alike, X.tail, State.WarmedH.trans X.warmed hW', X.limits, X.bytes, X.same.trans (hsame.setVm s.vm)⟩,
      ⟨g, mk, s₂, L, E, ce, rfl, rfl, hx, hce, hcv, hcl, rfl, hL, rfl, rfl⟩, ?_⟩
    show Steps p.tables e below _ (((({ U with heap := s₂.heap, slotsUsed := s₂.slotsUsed } : State).setVm s₂.vm).setTop g).pushFrame (.throwing q))
    rw [← hs₂]
    exact hsteps
end
variable {p : Program} {l : Launch} {e : Env} {R : Room} {s : State} {m : MethodId} {args : Array Value} {below : List Frame} {meth : Method} {c : Code} {T : State} {H : Heap} {locs : List Loc} {cells slots : Nat}
theorem vx_callVX (X : Stand p l e R s m args below meth c T locs cells slots) (hexec : p.tables.exec = Jvm.exec) {own C : String} {index : Nat} {y : MethodName} {bytes : ByteArray} {maxL : Nat} {ret : Option FieldType} {hh : List (Nat × Nat × Nat × Nat)}
    (hown : s.vm.findClass own = some m.cls) (hlink : (Cond.methodLink own index y).before args s = true) (hinst : (Cond.instanceMethod y).before args s = true) (hsel : (Cond.selects C y y).before args s = true)
    (hcode : (Cond.codeWith y bytes maxL ret hh).before args s = true) (hy : y.cls ≠ "java/lang/invoke/MethodHandle" ∧ y.cls ≠ "java/lang/invoke/VarHandle")
    {W9 : Nat} {Pre : Pt → Array Value → Prop} {Post : Pt → Array Value → Option Value → Pt → Prop} {PostX : Pt → Array Value → Addr → Pt → Prop} (hK : vx_Back l R p e below s args y 3 W9 Pre Post PostX)
    {b : Addr} {cellB : Cell} (hcell : T.heap[b]? = some cellB) (hobj : cellB.vm.isStatics = false) (hcls : s.vm.findClass C = some cellB.cls)
    {g : JFrame} (hg : g.method = m) (hsize : g.locals.size = c.maxLocals) {argsL rest : List Value} (hlen : ∀ sig, parseMethodDescriptor y.desc = some sig → argsL.length = sig.parameters.length)
    (hstack : g.stack = argsL.reverse ++ .ref b :: rest) (hW : 2 * g.monitorRoom + (rest.map fun v => v.category).sum ≤ W9) (hdg : decode c.code g.pc = .ok (.invokevirtual index, 3))
    (hpre : ∀ vm₁, s.WarmedH vm₁ → Pre ⟨T.setVm vm₁, locs, cells, slots⟩ (Value.ref b :: argsL).toArray) :
    (∃ (v : Option Value) (vm₁ : Vm) (B : Pt), s.WarmedH vm₁ ∧ Stand p l e R s m args below meth c B.U B.locs B.cells B.slots ∧ Post ⟨T.setVm vm₁, locs, cells, slots⟩ (Value.ref b :: argsL).toArray v B ∧
      ∀ target, Steps p.tables e below (B.U.setTop { g with pc := g.pc + 3, stack := v.toList ++ rest }) target → Steps p.tables e below (T.setTop g) target) ∨
    (∃ (q : Addr) (vm₁ : Vm) (B : Pt), s.WarmedH vm₁ ∧ Stand p l e R s m args below meth c B.U B.locs B.cells B.slots ∧ PostX ⟨T.setVm vm₁, locs, cells, slots⟩ (Value.ref b :: argsL).toArray q B ∧
      Steps p.tables e below (T.setTop g) ((B.U.setTop { g with stack := rest }).pushFrame (.throwing q))) := by
  obtain ⟨mk, methM, hnamed, hmethM, hstM, habM⟩ := Cond.instanceMethod_spec hinst
  obtain ⟨m8, methM', cM, hn8, hmethM', -, -, -, -, -, -, hsigM⟩ := Cond.codeWith_spec hcode
  cases Option.some.inj (hn8.symm.trans hnamed)
  cases hmethM.symm.trans hmethM'
  obtain ⟨c2, r2, m2, q1, q2, q3, q4, kP, hkP, hkPi⟩ := Cond.selects_spec hsel
  cases hcls.symm.trans q1
  cases (State.methodFound?_of_named hnamed hy).symm.trans q2
  cases hnamed.symm.trans q3
  have hselP : selectMethod e.platform s.vm cellB.cls mk = .method mk := by rw [Launch.admits_selectMethod X.admits]; exact q4
  obtain ⟨vm₁, X₁, hstep₁⟩ := X.invokevirtual hexec hown hlink hnamed hmethM hstM hkP hkPi hy (a := b) (cell := cellB) hcell
    (fun z h => by rw [h] at hobj; cases hobj) hselP hmethM habM hkP hkPi (g := g) hg (argsL := argsL) (rest := rest) (hlen _ hsigM) hstack hdg
  rcases hK m meth c ⟨T.setVm vm₁, locs, cells, slots⟩ { g with stack := rest } (.invokevirtual index) mk (Value.ref b :: argsL).toArray X₁ hg hsize hdg hW (X₁.named hnamed) (hpre vm₁ X₁.warmed) with ⟨v, B, X', hpost, hsteps⟩ | ⟨q, B, X', hpost, hsteps⟩
  · exact Or.inl ⟨v, vm₁, B, X₁.warmed, X', hpost, fun target h => hstep₁ _ fun acts => by rw [doInvoke_state]; exact hsteps.trans h⟩
  · exact Or.inr ⟨q, vm₁, B, X₁.warmed, X', hpost, hstep₁ _ fun acts => by rw [doInvoke_state]; exact hsteps⟩
theorem vx_callSX (X : Stand p l e R s m args below meth c T locs cells slots) (hexec : p.tables.exec = Jvm.exec) {own : String} {index : Nat} {y : MethodName} {bytes : ByteArray} {maxL : Nat} {ret : Option FieldType} {hh : List (Nat × Nat × Nat × Nat)}
    (hown : s.vm.findClass own = some m.cls) (hlink : (Cond.methodLink own index y).before args s = true) (hstat : (Cond.static y).before args s = true) (hinit : (Cond.initialized y.cls).before args s = true)
    (hcode : (Cond.codeWith y bytes maxL ret hh).before args s = true) (hy : y.cls ≠ "java/lang/invoke/MethodHandle" ∧ y.cls ≠ "java/lang/invoke/VarHandle")
    {W9 : Nat} {Pre : Pt → Array Value → Prop} {Post : Pt → Array Value → Option Value → Pt → Prop} {PostX : Pt → Array Value → Addr → Pt → Prop} (hK : vx_Back l R p e below s args y 3 W9 Pre Post PostX)
    {g : JFrame} (hg : g.method = m) (hsize : g.locals.size = c.maxLocals) {argsL rest : List Value} (hlen : ∀ sig, parseMethodDescriptor y.desc = some sig → argsL.length = sig.parameters.length)
    (hstack : g.stack = argsL.reverse ++ rest) (hW : 2 * g.monitorRoom + (rest.map fun v => v.category).sum ≤ W9) (hdg : decode c.code g.pc = .ok (.invokestatic index, 3))
    (hpre : ∀ vm₁, s.WarmedH vm₁ → Pre ⟨T.setVm vm₁, locs, cells, slots⟩ argsL.toArray) :
    (∃ (v : Option Value) (vm₁ : Vm) (B : Pt), s.WarmedH vm₁ ∧ Stand p l e R s m args below meth c B.U B.locs B.cells B.slots ∧ Post ⟨T.setVm vm₁, locs, cells, slots⟩ argsL.toArray v B ∧
      ∀ target, Steps p.tables e below (B.U.setTop { g with pc := g.pc + 3, stack := v.toList ++ rest }) target → Steps p.tables e below (T.setTop g) target) ∨
    (∃ (q : Addr) (vm₁ : Vm) (B : Pt), s.WarmedH vm₁ ∧ Stand p l e R s m args below meth c B.U B.locs B.cells B.slots ∧ PostX ⟨T.setVm vm₁, locs, cells, slots⟩ argsL.toArray q B ∧
      Steps p.tables e below (T.setTop g) ((B.U.setTop { g with stack := rest }).pushFrame (.throwing q))) := by
  obtain ⟨mk, methM, cM, hnamed, hmethM, -, -, -, -, -, -, hsigM⟩ := Cond.codeWith_spec hcode
  have hstatic : methM.isStatic = true := Cond.static_spec hnamed hmethM hstat
  obtain ⟨kP, hkP, -⟩ := className_of_methodNamed hnamed
  have hinitP : kP.init = .initialized := Cond.initialized_spec (findClass_of_methodNamed hnamed) hkP hinit
  obtain ⟨vm₁, X₁, hstep₁⟩ := X.invokestatic hexec hown hlink hnamed hmethM hstatic hkP hinitP hy (g := g) hg (argsL := argsL) (rest := rest) (hlen _ hsigM) hstack hdg
  rcases hK m meth c ⟨T.setVm vm₁, locs, cells, slots⟩ { g with stack := rest } (.invokestatic index) mk argsL.toArray X₁ hg hsize hdg hW (X₁.named hnamed) (hpre vm₁ X₁.warmed) with ⟨v, B, X', hpost, hsteps⟩ | ⟨q, B, X', hpost, hsteps⟩
  · exact Or.inl ⟨v, vm₁, B, X₁.warmed, X', hpost, fun target h => hstep₁ _ fun acts => by rw [doInvoke_state]; exact hsteps.trans h⟩
  · exact Or.inr ⟨q, vm₁, B, X₁.warmed, X', hpost, hstep₁ _ fun acts => by rw [doInvoke_state]; exact hsteps⟩
theorem vx_callVW (X : Stand p l e R s m args below meth c T locs cells slots) (hexec : p.tables.exec = Jvm.exec) {own C : String} {index : Nat} {y : MethodName} {bytes : ByteArray} {maxL : Nat} {ret : Option FieldType} {hh : List (Nat × Nat × Nat × Nat)}
    (hown : s.vm.findClass own = some m.cls) (hlink : (Cond.methodLink own index y).before args s = true) (hinst : (Cond.instanceMethod y).before args s = true) (hsel : (Cond.selects C y y).before args s = true)
    (hcode : (Cond.codeWith y bytes maxL ret hh).before args s = true) (hy : y.cls ≠ "java/lang/invoke/MethodHandle" ∧ y.cls ≠ "java/lang/invoke/VarHandle")
    {W9 : Nat} {Pre : Pt → Array Value → Prop} {Post : Pt → Array Value → Option Value → Pt → Prop} (hK : Back l R p e below s args y 3 W9 Pre Post)
    {b : Addr} {cellB : Cell} (hcell : T.heap[b]? = some cellB) (hobj : cellB.vm.isStatics = false) (hcls : s.vm.findClass C = some cellB.cls)
    {g : JFrame} (hg : g.method = m) (hsize : g.locals.size = c.maxLocals) {argsL rest : List Value} (hlen : ∀ sig, parseMethodDescriptor y.desc = some sig → argsL.length = sig.parameters.length)
    (hstack : g.stack = argsL.reverse ++ .ref b :: rest) (hW : 2 * g.monitorRoom + (rest.map fun v => v.category).sum ≤ W9) (hdg : decode c.code g.pc = .ok (.invokevirtual index, 3))
    (hpre : ∀ vm₁, s.WarmedH vm₁ → Pre ⟨T.setVm vm₁, locs, cells, slots⟩ (Value.ref b :: argsL).toArray) :
    ∃ (v : Option Value) (vm₁ : Vm) (B : Pt), s.WarmedH vm₁ ∧ Stand p l e R s m args below meth c B.U B.locs B.cells B.slots ∧ Post ⟨T.setVm vm₁, locs, cells, slots⟩ (Value.ref b :: argsL).toArray v B ∧
      ∀ target, Steps p.tables e below (B.U.setTop { g with pc := g.pc + 3, stack := v.toList ++ rest }) target → Steps p.tables e below (T.setTop g) target := by
  obtain ⟨mk, methM, hnamed, hmethM, hstM, habM⟩ := Cond.instanceMethod_spec hinst
  obtain ⟨m8, methM', cM, hn8, hmethM', -, -, -, -, -, -, hsigM⟩ := Cond.codeWith_spec hcode
  cases Option.some.inj (hn8.symm.trans hnamed)
  cases hmethM.symm.trans hmethM'
  obtain ⟨c2, r2, m2, q1, q2, q3, q4, kP, hkP, hkPi⟩ := Cond.selects_spec hsel
  cases hcls.symm.trans q1
  cases (State.methodFound?_of_named hnamed hy).symm.trans q2
  cases hnamed.symm.trans q3
  have hselP : selectMethod e.platform s.vm cellB.cls mk = .method mk := by rw [Launch.admits_selectMethod X.admits]; exact q4
  obtain ⟨vm₁, X₁, hstep₁⟩ := X.invokevirtual hexec hown hlink hnamed hmethM hstM hkP hkPi hy (a := b) (cell := cellB) hcell
    (fun z h => by rw [h] at hobj; cases hobj) hselP hmethM habM hkP hkPi (g := g) hg (argsL := argsL) (rest := rest) (hlen _ hsigM) hstack hdg
  obtain ⟨v, B, X', hpost, hsteps⟩ := hK m meth c ⟨T.setVm vm₁, locs, cells, slots⟩ { g with stack := rest } (.invokevirtual index) mk (Value.ref b :: argsL).toArray X₁ hg hsize hdg hW (X₁.named hnamed) (hpre vm₁ X₁.warmed)
  exact ⟨v, vm₁, B, X₁.warmed, X', hpost, fun target h => hstep₁ _ fun acts => by rw [doInvoke_state]; exact hsteps.trans h⟩
abbrev vx_CVW (R : Room) (s : State) (args : Array Value) (own C : String) (index : Nat) (y : MethodName) (bytes : ByteArray) (maxL : Nat) (ret : Option FieldType) (hh : List (Nat × Nat × Nat × Nat)) (ws : List Cond) (rm : Room) (mc ms n : Nat) : Prop :=
  (rm.cells = mc ∧ rm.slots = ms ∧ rm.frames + 1 ≤ R.frames ∧ 8 + (maxL + 11) + rm.locals ≤ R.locals ∧ (∀ w ∈ ws, ∀ (a' : Array Value) (U : State), s.WarmedH U.vm → w.before a' U = true) ∧ Cond.codeWith y bytes maxL ret hh ∈ ws) ∧
  (Cond.codeWith y bytes maxL ret hh).before args s = true ∧ (Cond.initialized y.cls).before args s = true ∧ (y.cls ≠ "java/lang/invoke/MethodHandle" ∧ y.cls ≠ "java/lang/invoke/VarHandle") ∧
  (∀ sig, parseMethodDescriptor y.desc = some sig → n = sig.parameters.length) ∧ (Cond.methodLink own index y).before args s = true ∧ (Cond.instanceMethod y).before args s = true ∧ (Cond.selects C y y).before args s = true
theorem vx_cwVW {own C : String} {index maxL mc ms : Nat} {y : MethodName} {bytes : ByteArray} {ret : Option FieldType} {hh : List (Nat × Nat × Nat × Nat)} {Ts ws ws' : List Cond} {rm : Room} (n : Nat) (ht : ∀ w ∈ Ts, w.before args s = true) (hT : GoodIn Ts (wsV own index C y ws)) (hw : ws = Cond.codeWith y bytes maxL ret hh :: ws') (hrc : rm.cells = mc) (hrs : rm.slots = ms)
    (hd : y.cls = C ∧ y.cls ≠ "java/lang/invoke/MethodHandle" ∧ y.cls ≠ "java/lang/invoke/VarHandle" ∧ (parseMethodDescriptor y.desc).map (fun d => d.parameters.length) = some n) (hR : rm.frames + 1 ≤ R.frames ∧ 8 + (maxL + 11) + rm.locals ≤ R.locals) :
    vx_CVW R s args own C index y bytes maxL ret hh ws rm mc ms n := by
  obtain ⟨hC, hd⟩ := hd
  subst hC
  have ok : ∀ w ∈ wsV own index y.cls y ws, w.before args s = true := fun w h => ht w (hT w h).1
  have hG : GoodIn Ts ws := fun w h => hT w (by unfold wsV; exact List.mem_append_right _ h)
  have hc : Cond.codeWith y bytes maxL ret hh ∈ ws := by rw [hw]; exact List.mem_cons_self
  refine ⟨⟨hrc, hrs, hR.1, hR.2, pay_in ht hG, hc⟩, ht _ (hG _ hc).1, ok _ (by simp [wsV]), ⟨hd.1, hd.2.1⟩, fun sig h => ?_, ok _ (by simp [wsV]), ok _ (by simp [wsV]), ok _ (by simp [wsV])⟩
  have h2 := hd.2.2
  rw [h] at h2
  exact (Option.some.inj h2).symm
theorem vx_runVW {y : MethodName} {bytes cc : ByteArray} {maxL nL mc ms n index : Nat} {ret : Option FieldType} {hh : List (Nat × Nat × Nat × Nat)} {ws : List Cond} {rm : Room} {Pc : Array Value → State → Prop} {Qc : Array Value → State → Outcome → State → Prop} {free : Addr → Prop} {Ts : List Cond} {own C : String} {b : Addr} {As rest : List Value} {g : JFrame}
    (S : CallFix p m c cc nL s args Ts own) (hM : Met l y ws rm Pc Qc mc ms free) (cw : vx_CVW R s args own C index y bytes maxL ret hh ws rm mc ms n) (hp : PreV s H C b Pc As)
    (hg : g.method = m) (hn : As.length = n) (hsize : g.locals.size = nL) (hstack : g.stack = As.reverse ++ .ref b :: rest) (hW : 2 * g.monitorRoom + (rest.map fun v => v.category).sum ≤ 8) (hdg : decode cc g.pc = .ok (.invokevirtual index, 3)) (hf : cells + mc ≤ R.cells ∧ slots + ms ≤ R.slots) :
    va_Run p l e R s m args below meth c H locs cells slots mc ms g rest (Qc (Value.ref b :: As).toArray) free := by
  obtain ⟨⟨hrc, hrs, hfr, hlo, hws, hcw⟩, hcode, hini, hy, hlen, hl, hin, hse⟩ := cw
  have hK : Back l R p e below s args y 3 8 (PreOf R mc ms Pc) (PostOf Qc mc ms free) := va_backW (hh := hh) (bytes := bytes) (maxL := maxL) (ret := ret) hM hp.1 hrc hrs hfr hlo hws hcw (fun a' U hW => word_at hW (Or.inl (by first | rfl | simp [Cond.onTables, Cond.keeps, Cond.steady])) hini)
  obtain ⟨hx, hb, hml, ho, -⟩ := S
  obtain ⟨-, ⟨cellB, hcB, hoB, hclB⟩, hPc⟩ := hp
  intro T hT X
  obtain ⟨v, vm₁, ⟨U', l2, c2, s2⟩, hW₁, X', ⟨g', mk, t, L, e1, e2, hq, h1, hL, h2, h3⟩, st⟩ := vx_callVW X hx (C := C) (hh := hh) (bytes := bytes) (maxL := maxL) (ret := ret) ho hl hin hse hcode hy hK (by rw [hT]; exact hcB) hoB hclB hg (hsize.trans hml.symm) (argsL := As) (rest := rest) (fun sig h => hn.trans (hlen sig h)) hstack hW (by rw [hb]; exact hdg)
    (fun vm₁ hW₁ => ⟨hf.1, hf.2, hPc (T.setVm vm₁) hT hW₁⟩)
  dsimp only [Pt.U, Pt.locs, Pt.cells, Pt.slots] at X' e1 e2 h1 h2 h3 st
  subst h1; subst h2; subst h3
  exact ⟨v, (T.setVm vm₁).calling g' mk (Value.ref b :: As).toArray, t, U', L, hT, X', hL, e1, e2, hq, st⟩
section
variable {y : MethodName} {bytes cc : ByteArray} {maxL nL mc ms n index : Nat} {ret : Option FieldType} {ws : List Cond} {rm : Room} {Pc : Array Value → State → Prop} {Qc : Array Value → State → Outcome → State → Prop} {XC : String → State → State → Prop} {free : Addr → Prop} {Ts : List Cond} {own C : String} {b : Addr} {As rest : List Value} {g : JFrame}
theorem vx_runVX {hh : List (Nat × Nat × Nat × Nat)} (S : CallFix p m c cc nL s args Ts own) (hM : vx_Met l y ws rm Pc Qc XC mc ms free) (cw : vx_CVW R s args own C index y bytes maxL ret hh ws rm mc ms n) (hp : PreV s H C b Pc As)
    (hg : g.method = m) (hn : As.length = n) (hsize : g.locals.size = nL) (hstack : g.stack = As.reverse ++ .ref b :: rest) (hW : 2 * g.monitorRoom + (rest.map fun v => v.category).sum ≤ 8) (hdg : decode cc g.pc = .ok (.invokevirtual index, 3)) (hf : cells + mc ≤ R.cells ∧ slots + ms ≤ R.slots) :
    vx_Run p l e R s m args below meth c H locs cells slots mc ms g rest (Qc (Value.ref b :: As).toArray) XC free := by
  obtain ⟨⟨hrc, hrs, hfr, hlo, hws, hcw⟩, hcode, hini, hy, hlen, hl, hin, hse⟩ := cw
  have hK : vx_Back l R p e below s args y 3 8 (PreOf R mc ms Pc) (PostOf Qc mc ms free) (vx_Post XC mc ms free) := vx_backW (hh := hh) (bytes := bytes) (maxL := maxL) (ret := ret) hM hp.1 hrc hrs hfr hlo hws hcw (fun a' U hW => word_at hW (Or.inl (by first | rfl | simp [Cond.onTables, Cond.keeps, Cond.steady])) hini)
  obtain ⟨hx, hb, hml, ho, -⟩ := S
  obtain ⟨-, ⟨cellB, hcB, hoB, hclB⟩, hPc⟩ := hp
  intro T hT X
  rcases vx_callVX X hx (C := C) (hh := hh) (bytes := bytes) (maxL := maxL) (ret := ret) ho hl hin hse hcode hy hK (by rw [hT]; exact hcB) hoB hclB hg (hsize.trans hml.symm) (argsL := As) (rest := rest) (fun sig h => hn.trans (hlen sig h)) hstack hW (by rw [hb]; exact hdg)
    (fun vm₁ hW₁ => ⟨hf.1, hf.2, hPc (T.setVm vm₁) hT hW₁⟩) with ⟨v, vm₁, ⟨U', l2, c2, s2⟩, hW₁, X', ⟨g', mk, t, L, e1, e2, hq, h1, hL, h2, h3⟩, st⟩ | ⟨q, vm₁, ⟨U', l2, c2, s2⟩, hW₁, X', ⟨g', mk, t, L, E, ce, e1, e2, hq, hce, hcv, hcl, h1, hL, h2, h3⟩, st⟩
  · dsimp only [Pt.U, Pt.locs, Pt.cells, Pt.slots] at X' e1 e2 h1 h2 h3 st
    subst h1; subst h2; subst h3
    exact Or.inl ⟨v, (T.setVm vm₁).calling g' mk (Value.ref b :: As).toArray, t, U', L, hT, X', hL, e1, e2, hq, st⟩
  · dsimp only [Pt.U, Pt.locs, Pt.cells, Pt.slots] at X' e1 e2 h1 h2 h3 st hcl
    subst h1; subst h2; subst h3
    exact Or.inr ⟨q, (T.setVm vm₁).calling g' mk (Value.ref b :: As).toArray, t, U', L, E, ce, hT, X', hL, e1, e2, hq, hce, hcv, vx_cls hW₁ hcl, st⟩
theorem vx_runSX {hh : List (Nat × Nat × Nat × Nat)} (S : CallFix p m c cc nL s args Ts own) (hM : vx_Met l y ws rm Pc Qc XC mc ms free) (cw : vx_CSW R s args own index y bytes maxL ret hh ws rm mc ms n) (hp : PreS s H Pc As)
    (hg : g.method = m) (hn : As.length = n) (hsize : g.locals.size = nL) (hstack : g.stack = As.reverse ++ rest) (hW : 2 * g.monitorRoom + (rest.map fun v => v.category).sum ≤ 8) (hdg : decode cc g.pc = .ok (.invokestatic index, 3)) (hf : cells + mc ≤ R.cells ∧ slots + ms ≤ R.slots) :
    vx_Run p l e R s m args below meth c H locs cells slots mc ms g rest (Qc As.toArray) XC free := by
  obtain ⟨⟨hrc, hrs, hfr, hlo, hws, hcw⟩, hcode, hini, hy, hlen, hl, hstt⟩ := cw
  have hK : vx_Back l R p e below s args y 3 8 (PreOf R mc ms Pc) (PostOf Qc mc ms free) (vx_Post XC mc ms free) := vx_backW (hh := hh) (bytes := bytes) (maxL := maxL) (ret := ret) hM hp.1 hrc hrs hfr hlo hws hcw (fun a' U hW => word_at hW (Or.inl (by first | rfl | simp [Cond.onTables, Cond.keeps, Cond.steady])) hini)
  obtain ⟨hx, hb, hml, ho, -⟩ := S
  intro T hT X
  rcases vx_callSX X hx (hh := hh) (bytes := bytes) (maxL := maxL) (ret := ret) ho hl hstt hini hcode hy hK hg (hsize.trans hml.symm) (argsL := As) (rest := rest) (fun sig h => hn.trans (hlen sig h)) hstack hW (by rw [hb]; exact hdg)
    (fun vm₁ hW₁ => ⟨hf.1, hf.2, hp.2 (T.setVm vm₁) hT hW₁⟩) with ⟨v, vm₁, ⟨U', l2, c2, s2⟩, hW₁, X', ⟨g', mk, t, L, e1, e2, hq, h1, hL, h2, h3⟩, st⟩ | ⟨q, vm₁, ⟨U', l2, c2, s2⟩, hW₁, X', ⟨g', mk, t, L, E, ce, e1, e2, hq, hce, hcv, hcl, h1, hL, h2, h3⟩, st⟩
  · dsimp only [Pt.U, Pt.locs, Pt.cells, Pt.slots] at X' e1 e2 h1 h2 h3 st
    subst h1; subst h2; subst h3
    exact Or.inl ⟨v, (T.setVm vm₁).calling g' mk As.toArray, t, U', L, hT, X', hL, e1, e2, hq, st⟩
  · dsimp only [Pt.U, Pt.locs, Pt.cells, Pt.slots] at X' e1 e2 h1 h2 h3 st hcl
    subst h1; subst h2; subst h3
    exact Or.inr ⟨q, (T.setVm vm₁).calling g' mk As.toArray, t, U', L, E, ce, hT, X', hL, e1, e2, hq, hce, hcv, vx_cls hW₁ hcl, st⟩
end
end VXH
theorem vx_ofWH {l : Launch} {y : MethodName} {ws ws' : List Cond} {rm : Room} {Pc : Array Value → State → Prop} {Qc : Array Value → State → Outcome → State → Prop} {XC : String → State → State → Prop} {mc ms : Nat} {free : Addr → Prop} {cc : ByteArray} {maxL : Nat} {ret : Option FieldType} {hh : List (Nat × Nat × Nat × Nat)}
    (hy : plainName y.cls = true) (hw : ws = Cond.codeWith y cc maxL ret hh :: ws')
    (body : ∀ p e s m args below meth c s₁, BodyLoose p l y (headSpec ws rm) cc maxL ret e s m args below meth c s₁ → c.maxLocals = maxL → Pc args s →
      W p l e (headSpec ws rm).room s m args below meth c s.heap [] 0 0 (vx_MQ below Qc XC args s mc ms free) (entryFrame m args maxL)) : vx_Met l y ws rm Pc Qc XC mc ms free := by
  refine MetFree.of_bodyS (code := cc) (maxLocals := maxL) (ret := ret) hy ?_ ?_
  · intro args s m h hn
    obtain ⟨m9, meth, c, hn9, h1, h2, h3, h4, -, h5, h6, -⟩ := Cond.codeWith_spec (atoms_spec (ws := ws) h _ (by rw [hw]; exact List.mem_cons_self))
    cases hn.symm.trans hn9
    exact ⟨meth, c, h1, h2, h3, h4, h5, h6⟩
  · intro p e s m args below meth c s₁ B hml hP _
    have hh0 : s₁.heap = s.heap := by rw [B.state]; rfl
    obtain ⟨t, a1, o, b1, b2, b3⟩ := body p e s m args below meth c s₁ B hml hP s₁ hh0 (Stand.of_body B)
    exact ⟨t, o, a1, b1, b2, b3⟩
/-! ===== END ===== -/
end
section
def RX0 : String := "DictationBelt$OrderText"
def TX0 : u_T := fun k => match k with
  | 0 => ("DictationBelt$OrderText", "codes", "[I", true)
  | _ => ("DictationBelt$OrderText", "length", "I", false)
def tyX0 : Nat → FieldType := fun k => match k with
  | 0 => .array .int
  | _ => .int
abbrev wsX00 : List Cond := u_ws RX0 TX0 2
theorem nmX0 : ∀ a, a < 2 → ∀ b, b < 2 → a ≠ b → (TX0 a).2.1 ≠ (TX0 b).2.1 := by decide +kernel
theorem tyX0_ok : ∀ k, k < 2 → parseFieldDescriptor (TX0 k).2.2.1 = some (tyX0 k) := by decide +kernel
abbrev cX0_init : ByteArray := prog_2_method_1_code
def yX0_init : MethodName := ⟨RX0, "<init>", "()V"⟩
abbrev cX0_add : ByteArray := prog_2_method_2_code
def yX0_add : MethodName := ⟨RX0, "add", "(I)V"⟩
abbrev cX0_errorIndex : ByteArray := prog_2_method_3_code
def yX0_errorIndex : MethodName := ⟨RX0, "errorIndex", "()I"⟩
abbrev cX0_isComplete : ByteArray := prog_2_method_4_code
def yX0_isComplete : MethodName := ⟨RX0, "isComplete", "()Z"⟩
abbrev cX0_stageAfter : ByteArray := prog_2_method_5_code
def yX0_stageAfter : MethodName := ⟨RX0, "stageAfter", "(II)I"⟩
abbrev cX0_stageAfterLetter : ByteArray := prog_2_method_6_code
def yX0_stageAfterLetter : MethodName := ⟨RX0, "stageAfterLetter", "(I)I"⟩
abbrev cX0_stageAfterFirstOfTimes : ByteArray := prog_2_method_7_code
def yX0_stageAfterFirstOfTimes : MethodName := ⟨RX0, "stageAfterFirstOfTimes", "(I)I"⟩
abbrev cX0_isIn : ByteArray := prog_2_method_8_code
def yX0_isIn : MethodName := ⟨RX0, "isIn", "(III)Z"⟩
def RX1 : String := "DictationBelt$State"
def TX1 : u_T := fun k => match k with
  | 0 => ("DictationBelt$State", "owners", "[I", true)
  | 1 => ("DictationBelt$State", "sounds", "[I", true)
  | 2 => ("DictationBelt$State", "carbons", "[I", true)
  | 3 => ("DictationBelt$State", "order", "[I", true)
  | 4 => ("DictationBelt$State", "used", "I", false)
  | 5 => ("DictationBelt$State", "flags", "[I", true)
  | 6 => ("DictationBelt$State", "losses", "[I", true)
  | 7 => ("DictationBelt$State", "count", "I", false)
  | 8 => ("DictationBelt$State", "isRunning", "Z", false)
  | 9 => ("DictationBelt$State", "head", "I", false)
  | 10 => ("DictationBelt$State", "spoken", "I", false)
  | 11 => ("DictationBelt$State", "gone", "I", false)
  | 12 => ("DictationBelt$State", "player", "I", false)
  | _ => ("DictationBelt$State", "place", "I", false)
def tyX1 : Nat → FieldType := fun k => match k with
  | 0 => .array .int
  | 1 => .array .int
  | 2 => .array .int
  | 3 => .array .int
  | 4 => .int
  | 5 => .array .int
  | 6 => .array .int
  | 7 => .int
  | 8 => .boolean
  | 9 => .int
  | 10 => .int
  | 11 => .int
  | 12 => .int
  | _ => .int
abbrev wsX10 : List Cond := u_ws RX1 TX1 14
theorem nmX1 : ∀ a, a < 14 → ∀ b, b < 14 → a ≠ b → (TX1 a).2.1 ≠ (TX1 b).2.1 := by decide +kernel
theorem tyX1_ok : ∀ k, k < 14 → parseFieldDescriptor (TX1 k).2.2.1 = some (tyX1 k) := by decide +kernel
abbrev cX1_init : ByteArray := prog_3_method_1_code
def yX1_init : MethodName := ⟨RX1, "<init>", "()V"⟩
abbrev cX1_copyFrom : ByteArray := prog_3_method_2_code
def yX1_copyFrom : MethodName := ⟨RX1, "copyFrom", "(LDictationBelt$State;)V"⟩
abbrev cX1_isRecording : ByteArray := prog_3_method_3_code
def yX1_isRecording : MethodName := ⟨RX1, "isRecording", "(I)Z"⟩
abbrev cX1_runningNumber : ByteArray := prog_3_method_4_code
def yX1_runningNumber : MethodName := ⟨RX1, "runningNumber", "()I"⟩
abbrev cX1_isFlagged : ByteArray := prog_3_method_5_code
def yX1_isFlagged : MethodName := ⟨RX1, "isFlagged", "(I)Z"⟩
abbrev cX1_putFlag : ByteArray := prog_3_method_6_code
def yX1_putFlag : MethodName := ⟨RX1, "putFlag", "(IZ)V"⟩
abbrev cX1_cellCount : ByteArray := prog_3_method_7_code
def yX1_cellCount : MethodName := ⟨RX1, "cellCount", "(I)I"⟩
abbrev cX1_cellAt : ByteArray := prog_3_method_8_code
def yX1_cellAt : MethodName := ⟨RX1, "cellAt", "(II)I"⟩
abbrev cX1_mayBegin : ByteArray := prog_3_method_9_code
def yX1_mayBegin : MethodName := ⟨RX1, "mayBegin", "()Z"⟩
abbrev cX1_beginRecording : ByteArray := prog_3_method_10_code
def yX1_beginRecording : MethodName := ⟨RX1, "beginRecording", "()I"⟩
abbrev cX1_stopRecording : ByteArray := prog_3_method_11_code
def yX1_stopRecording : MethodName := ⟨RX1, "stopRecording", "()I"⟩
abbrev cX1_eraseRecording : ByteArray := prog_3_method_12_code
def yX1_eraseRecording : MethodName := ⟨RX1, "eraseRecording", "(I)I"⟩
abbrev cX1_removeRecording : ByteArray := prog_3_method_13_code
def yX1_removeRecording : MethodName := ⟨RX1, "removeRecording", "(I)V"⟩
abbrev cX1_dropFreeCells : ByteArray := prog_3_method_14_code
def yX1_dropFreeCells : MethodName := ⟨RX1, "dropFreeCells", "()V"⟩
abbrev cX1_cellFromHead : ByteArray := prog_3_method_15_code
def yX1_cellFromHead : MethodName := ⟨RX1, "cellFromHead", "(I)I"⟩
abbrev cX1_isWritable : ByteArray := prog_3_method_16_code
def yX1_isWritable : MethodName := ⟨RX1, "isWritable", "(I)Z"⟩
abbrev cX1_writableCells : ByteArray := prog_3_method_17_code
def yX1_writableCells : MethodName := ⟨RX1, "writableCells", "()I"⟩
abbrev cX1_firstWritable : ByteArray := prog_3_method_18_code
def yX1_firstWritable : MethodName := ⟨RX1, "firstWritable", "()I"⟩
abbrev cX1_firstLoser : ByteArray := prog_3_method_19_code
def yX1_firstLoser : MethodName := ⟨RX1, "firstLoser", "()I"⟩
abbrev cX1_lossAfter : ByteArray := prog_3_method_20_code
def yX1_lossAfter : MethodName := ⟨RX1, "lossAfter", "(II)I"⟩
abbrev cX1_maySpeak : ByteArray := prog_3_method_21_code
def yX1_maySpeak : MethodName := ⟨RX1, "maySpeak", "(I)Z"⟩
abbrev cX1_speakTimes : ByteArray := prog_3_method_22_code
def yX1_speakTimes : MethodName := ⟨RX1, "speakTimes", "(II)I"⟩
abbrev cX1_loseCell : ByteArray := prog_3_method_23_code
def yX1_loseCell : MethodName := ⟨RX1, "loseCell", "(I)V"⟩
abbrev cX1_cellsBefore : ByteArray := prog_3_method_24_code
def yX1_cellsBefore : MethodName := ⟨RX1, "cellsBefore", "(I)I"⟩
abbrev cX1_writeCell : ByteArray := prog_3_method_25_code
def yX1_writeCell : MethodName := ⟨RX1, "writeCell", "(II)V"⟩
abbrev cX1_bringPlayer : ByteArray := prog_3_method_26_code
def yX1_bringPlayer : MethodName := ⟨RX1, "bringPlayer", "(I)V"⟩
abbrev cX1_playCell : ByteArray := prog_3_method_27_code
def yX1_playCell : MethodName := ⟨RX1, "playCell", "()I"⟩
abbrev cX1_stepBack : ByteArray := prog_3_method_28_code
def yX1_stepBack : MethodName := ⟨RX1, "stepBack", "(I)I"⟩
abbrev cX1_correctedCells : ByteArray := prog_3_method_29_code
def yX1_correctedCells : MethodName := ⟨RX1, "correctedCells", "()I"⟩
def RX2 : String := "DictationBelt"
def TX2 : u_T := fun k => match k with
  | 0 => ("DictationBelt", "now", "LDictationBelt$State;", true)
  | 1 => ("DictationBelt", "saved", "[LDictationBelt$State;", true)
  | 2 => ("DictationBelt", "nextSlot", "I", false)
  | 3 => ("DictationBelt", "savedCount", "I", false)
  | _ => ("DictationBelt", "text", "LDictationBelt$OrderText;", true)
def tyX2 : Nat → FieldType := fun k => match k with
  | 0 => .object "DictationBelt$State"
  | 1 => .array (.object "DictationBelt$State")
  | 2 => .int
  | 3 => .int
  | _ => .object "DictationBelt$OrderText"
abbrev wsX20 : List Cond := u_ws RX2 TX2 5
theorem nmX2 : ∀ a, a < 5 → ∀ b, b < 5 → a ≠ b → (TX2 a).2.1 ≠ (TX2 b).2.1 := by decide +kernel
theorem tyX2_ok : ∀ k, k < 5 → parseFieldDescriptor (TX2 k).2.2.1 = some (tyX2 k) := by decide +kernel
abbrev cX2_init : ByteArray := prog_1_method_1_code
def yX2_init : MethodName := ⟨RX2, "<init>", "()V"⟩
abbrev cX2_begin : ByteArray := prog_1_method_2_code
def yX2_begin : MethodName := ⟨RX2, "begin", "()I"⟩
abbrev cX2_halt : ByteArray := prog_1_method_3_code
def yX2_halt : MethodName := ⟨RX2, "halt", "()I"⟩
abbrev cX2_speak : ByteArray := prog_1_method_4_code
def yX2_speak : MethodName := ⟨RX2, "speak", "(I)I"⟩
abbrev cX2_setFlag : ByteArray := prog_1_method_5_code
def yX2_setFlag : MethodName := ⟨RX2, "setFlag", "(IZ)Z"⟩
abbrev cX2_erase : ByteArray := prog_1_method_6_code
def yX2_erase : MethodName := ⟨RX2, "erase", "(I)I"⟩
abbrev cX2_moveHead : ByteArray := prog_1_method_7_code
def yX2_moveHead : MethodName := ⟨RX2, "moveHead", "(I)I"⟩
abbrev cX2_recordings : ByteArray := prog_1_method_8_code
def yX2_recordings : MethodName := ⟨RX2, "recordings", "()I"⟩
abbrev cX2_running : ByteArray := prog_1_method_9_code
def yX2_running : MethodName := ⟨RX2, "running", "()I"⟩
abbrev cX2_head : ByteArray := prog_1_method_10_code
def yX2_head : MethodName := ⟨RX2, "head", "()I"⟩
abbrev cX2_length : ByteArray := prog_1_method_11_code
def yX2_length : MethodName := ⟨RX2, "length", "(I)I"⟩
abbrev cX2_sound : ByteArray := prog_1_method_12_code
def yX2_sound : MethodName := ⟨RX2, "sound", "(II)I"⟩
abbrev cX2_cellOf : ByteArray := prog_1_method_13_code
def yX2_cellOf : MethodName := ⟨RX2, "cellOf", "(II)I"⟩
abbrev cX2_hasFlag : ByteArray := prog_1_method_14_code
def yX2_hasFlag : MethodName := ⟨RX2, "hasFlag", "(I)Z"⟩
abbrev cX2_lost : ByteArray := prog_1_method_15_code
def yX2_lost : MethodName := ⟨RX2, "lost", "(I)I"⟩
abbrev cX2_owner : ByteArray := prog_1_method_16_code
def yX2_owner : MethodName := ⟨RX2, "owner", "(I)I"⟩
abbrev cX2_free : ByteArray := prog_1_method_17_code
def yX2_free : MethodName := ⟨RX2, "free", "()I"⟩
abbrev cX2_spoken : ByteArray := prog_1_method_18_code
def yX2_spoken : MethodName := ⟨RX2, "spoken", "()I"⟩
abbrev cX2_gone : ByteArray := prog_1_method_19_code
def yX2_gone : MethodName := ⟨RX2, "gone", "()I"⟩
abbrev cX2_usedShare : ByteArray := prog_1_method_20_code
def yX2_usedShare : MethodName := ⟨RX2, "usedShare", "()D"⟩
abbrev cX2_go : ByteArray := prog_1_method_21_code
def yX2_go : MethodName := ⟨RX2, "go", "(I)I"⟩
abbrev cX2_play : ByteArray := prog_1_method_22_code
def yX2_play : MethodName := ⟨RX2, "play", "()I"⟩
abbrev cX2_back : ByteArray := prog_1_method_23_code
def yX2_back : MethodName := ⟨RX2, "back", "(I)I"⟩
abbrev cX2_playing : ByteArray := prog_1_method_24_code
def yX2_playing : MethodName := ⟨RX2, "playing", "()I"⟩
abbrev cX2_place : ByteArray := prog_1_method_25_code
def yX2_place : MethodName := ⟨RX2, "place", "()I"⟩
abbrev cX2_correct : ByteArray := prog_1_method_26_code
def yX2_correct : MethodName := ⟨RX2, "correct", "(III)I"⟩
abbrev cX2_carbon : ByteArray := prog_1_method_27_code
def yX2_carbon : MethodName := ⟨RX2, "carbon", "(II)I"⟩
abbrev cX2_corrected : ByteArray := prog_1_method_28_code
def yX2_corrected : MethodName := ⟨RX2, "corrected", "()I"⟩
abbrev cX2_room : ByteArray := prog_1_method_29_code
def yX2_room : MethodName := ⟨RX2, "room", "()I"⟩
abbrev cX2_nextLoser : ByteArray := prog_1_method_30_code
def yX2_nextLoser : MethodName := ⟨RX2, "nextLoser", "()I"⟩
abbrev cX2_lossOf : ByteArray := prog_1_method_31_code
def yX2_lossOf : MethodName := ⟨RX2, "lossOf", "(II)I"⟩
abbrev cX2_goneAfter : ByteArray := prog_1_method_32_code
def yX2_goneAfter : MethodName := ⟨RX2, "goneAfter", "(I)I"⟩
abbrev cX2_append : ByteArray := prog_1_method_33_code
def yX2_append : MethodName := ⟨RX2, "append", "(I)I"⟩
abbrev cX2_clearText : ByteArray := prog_1_method_34_code
def yX2_clearText : MethodName := ⟨RX2, "clearText", "()I"⟩
abbrev cX2_firstError : ByteArray := prog_1_method_35_code
def yX2_firstError : MethodName := ⟨RX2, "firstError", "()I"⟩
abbrev cX2_run : ByteArray := prog_1_method_36_code
def yX2_run : MethodName := ⟨RX2, "run", "()I"⟩
abbrev cX2_undo : ByteArray := prog_1_method_37_code
def yX2_undo : MethodName := ⟨RX2, "undo", "()I"⟩
abbrev cX2_savedStates : ByteArray := prog_1_method_38_code
def yX2_savedStates : MethodName := ⟨RX2, "savedStates", "()I"⟩
abbrev cX2_digest : ByteArray := prog_1_method_39_code
def yX2_digest : MethodName := ⟨RX2, "digest", "()J"⟩
abbrev cX2_withRecording : ByteArray := prog_1_method_40_code
def yX2_withRecording : MethodName := ⟨RX2, "withRecording", "(JI)J"⟩
abbrev cX2_mixed : ByteArray := prog_1_method_41_code
def yX2_mixed : MethodName := ⟨RX2, "mixed", "(JJ)J"⟩
abbrev cX2_save : ByteArray := prog_1_method_42_code
def yX2_save : MethodName := ⟨RX2, "save", "()V"⟩
abbrev cX2_slotAt : ByteArray := prog_1_method_43_code
def yX2_slotAt : MethodName := ⟨RX2, "slotAt", "(I)LDictationBelt$State;"⟩
abbrev cX2_obeyOrders : ByteArray := prog_1_method_44_code
def yX2_obeyOrders : MethodName := ⟨RX2, "obeyOrders", "()I"⟩
abbrev cX2_mayObey : ByteArray := prog_1_method_45_code
def yX2_mayObey : MethodName := ⟨RX2, "mayObey", "(III)Z"⟩
abbrev cX2_obey : ByteArray := prog_1_method_46_code
def yX2_obey : MethodName := ⟨RX2, "obey", "(III)V"⟩
abbrev cX2_requireRecording : ByteArray := prog_1_method_47_code
def yX2_requireRecording : MethodName := ⟨RX2, "requireRecording", "(I)V"⟩
abbrev cX2_requirePlace : ByteArray := prog_1_method_48_code
def yX2_requirePlace : MethodName := ⟨RX2, "requirePlace", "(II)V"⟩
abbrev cX2_requirePlayer : ByteArray := prog_1_method_49_code
def yX2_requirePlayer : MethodName := ⟨RX2, "requirePlayer", "()V"⟩
abbrev cX2_requireCell : ByteArray := prog_1_method_50_code
def yX2_requireCell : MethodName := ⟨RX2, "requireCell", "(I)V"⟩
abbrev cX2_requireSound : ByteArray := prog_1_method_51_code
def yX2_requireSound : MethodName := ⟨RX2, "requireSound", "(I)V"⟩
abbrev cX2_requireForecast : ByteArray := prog_1_method_52_code
def yX2_requireForecast : MethodName := ⟨RX2, "requireForecast", "(I)V"⟩
abbrev cX2_valueAt : ByteArray := prog_1_method_53_code
def yX2_valueAt : MethodName := ⟨RX2, "valueAt", "([II)I"⟩
abbrev cX2_putAt : ByteArray := prog_1_method_54_code
def yX2_putAt : MethodName := ⟨RX2, "putAt", "([III)V"⟩
def RX3 : String := "DictationBeltModel"
def TX3 : u_T := fun k => match k with
  | 0 => ("DictationBeltModel", "thrown", "I", false)
  | 1 => ("DictationBeltModel", "s", "[I", true)
  | 2 => ("DictationBeltModel", "saved", "I", false)
  | 3 => ("DictationBeltModel", "text", "[I", true)
  | 4 => ("DictationBeltModel", "length", "I", false)
  | 5 => ("DictationBeltModel", "at", "I", false)
  | 6 => ("DictationBeltModel", "letter", "I", false)
  | 7 => ("DictationBeltModel", "first", "I", false)
  | 8 => ("DictationBeltModel", "second", "I", false)
  | _ => ("DictationBeltModel", "hash", "J", false)
def tyX3 : Nat → FieldType := fun k => match k with
  | 0 => .int
  | 1 => .array .int
  | 2 => .int
  | 3 => .array .int
  | 4 => .int
  | 5 => .int
  | 6 => .int
  | 7 => .int
  | 8 => .int
  | _ => .long
abbrev wsX30 : List Cond := u_ws RX3 TX3 10
theorem nmX3 : ∀ a, a < 10 → ∀ b, b < 10 → a ≠ b → (TX3 a).2.1 ≠ (TX3 b).2.1 := by decide +kernel
theorem tyX3_ok : ∀ k, k < 10 → parseFieldDescriptor (TX3 k).2.2.1 = some (tyX3 k) := by decide +kernel
abbrev cX3_init : ByteArray := prog_5_method_1_code
def yX3_init : MethodName := ⟨RX3, "<init>", "()V"⟩
abbrev cX3_thrown : ByteArray := prog_5_method_2_code
def yX3_thrown : MethodName := ⟨RX3, "thrown", "()I"⟩
abbrev cX3_in : ByteArray := prog_5_method_3_code
def yX3_in : MethodName := ⟨RX3, "in", "(III)Z"⟩
abbrev cX3_holds : ByteArray := prog_5_method_4_code
def yX3_holds : MethodName := ⟨RX3, "holds", "(I)Z"⟩
abbrev cX3_told : ByteArray := prog_5_method_5_code
def yX3_told : MethodName := ⟨RX3, "told", "(I)I"⟩
abbrev cX3_isRecording : ByteArray := prog_5_method_6_code
def yX3_isRecording : MethodName := ⟨RX3, "isRecording", "(I)Z"⟩
abbrev cX3_isCell : ByteArray := prog_5_method_7_code
def yX3_isCell : MethodName := ⟨RX3, "isCell", "(I)Z"⟩
abbrev cX3_cells : ByteArray := prog_5_method_8_code
def yX3_cells : MethodName := ⟨RX3, "cells", "(I)I"⟩
abbrev cX3_placeOf : ByteArray := prog_5_method_9_code
def yX3_placeOf : MethodName := ⟨RX3, "placeOf", "(I)I"⟩
abbrev cX3_cellAt : ByteArray := prog_5_method_10_code
def yX3_cellAt : MethodName := ⟨RX3, "cellAt", "(II)I"⟩
abbrev cX3_isWritable : ByteArray := prog_5_method_11_code
def yX3_isWritable : MethodName := ⟨RX3, "isWritable", "(I)Z"⟩
abbrev cX3_writable : ByteArray := prog_5_method_12_code
def yX3_writable : MethodName := ⟨RX3, "writable", "()I"⟩
abbrev cX3_leaves : ByteArray := prog_5_method_13_code
def yX3_leaves : MethodName := ⟨RX3, "leaves", "(I)V"⟩
abbrev cX3_loses : ByteArray := prog_5_method_14_code
def yX3_loses : MethodName := ⟨RX3, "loses", "(I)V"⟩
abbrev cX3_speaks : ByteArray := prog_5_method_15_code
def yX3_speaks : MethodName := ⟨RX3, "speaks", "(I)I"⟩
abbrev cX3_halts : ByteArray := prog_5_method_16_code
def yX3_halts : MethodName := ⟨RX3, "halts", "()I"⟩
abbrev cX3_begins : ByteArray := prog_5_method_17_code
def yX3_begins : MethodName := ⟨RX3, "begins", "()I"⟩
abbrev cX3_canBegin : ByteArray := prog_5_method_18_code
def yX3_canBegin : MethodName := ⟨RX3, "canBegin", "()Z"⟩
abbrev cX3_canSpeak : ByteArray := prog_5_method_19_code
def yX3_canSpeak : MethodName := ⟨RX3, "canSpeak", "(I)Z"⟩
abbrev cX3_goes : ByteArray := prog_5_method_20_code
def yX3_goes : MethodName := ⟨RX3, "goes", "(I)I"⟩
abbrev cX3_plays : ByteArray := prog_5_method_21_code
def yX3_plays : MethodName := ⟨RX3, "plays", "()I"⟩
abbrev cX3_goesBack : ByteArray := prog_5_method_22_code
def yX3_goesBack : MethodName := ⟨RX3, "goesBack", "(I)I"⟩
abbrev cX3_copies : ByteArray := prog_5_method_23_code
def yX3_copies : MethodName := ⟨RX3, "copies", "(II)V"⟩
abbrev cX3_save : ByteArray := prog_5_method_24_code
def yX3_save : MethodName := ⟨RX3, "save", "()V"⟩
abbrev cX3_begin : ByteArray := prog_5_method_25_code
def yX3_begin : MethodName := ⟨RX3, "begin", "()I"⟩
abbrev cX3_halt : ByteArray := prog_5_method_26_code
def yX3_halt : MethodName := ⟨RX3, "halt", "()I"⟩
abbrev cX3_isSound : ByteArray := prog_5_method_27_code
def yX3_isSound : MethodName := ⟨RX3, "isSound", "(I)Z"⟩
abbrev cX3_speak : ByteArray := prog_5_method_28_code
def yX3_speak : MethodName := ⟨RX3, "speak", "(I)I"⟩
abbrev cX3_setFlag : ByteArray := prog_5_method_29_code
def yX3_setFlag : MethodName := ⟨RX3, "setFlag", "(IZ)Z"⟩
abbrev cX3_erase : ByteArray := prog_5_method_30_code
def yX3_erase : MethodName := ⟨RX3, "erase", "(I)I"⟩
abbrev cX3_moveHead : ByteArray := prog_5_method_31_code
def yX3_moveHead : MethodName := ⟨RX3, "moveHead", "(I)I"⟩
abbrev cX3_recordings : ByteArray := prog_5_method_32_code
def yX3_recordings : MethodName := ⟨RX3, "recordings", "()I"⟩
abbrev cX3_running : ByteArray := prog_5_method_33_code
def yX3_running : MethodName := ⟨RX3, "running", "()I"⟩
abbrev cX3_head : ByteArray := prog_5_method_34_code
def yX3_head : MethodName := ⟨RX3, "head", "()I"⟩
abbrev cX3_length : ByteArray := prog_5_method_35_code
def yX3_length : MethodName := ⟨RX3, "length", "(I)I"⟩
abbrev cX3_ofPlace : ByteArray := prog_5_method_36_code
def yX3_ofPlace : MethodName := ⟨RX3, "ofPlace", "(III)I"⟩
abbrev cX3_sound : ByteArray := prog_5_method_37_code
def yX3_sound : MethodName := ⟨RX3, "sound", "(II)I"⟩
abbrev cX3_cellOf : ByteArray := prog_5_method_38_code
def yX3_cellOf : MethodName := ⟨RX3, "cellOf", "(II)I"⟩
abbrev cX3_hasFlag : ByteArray := prog_5_method_39_code
def yX3_hasFlag : MethodName := ⟨RX3, "hasFlag", "(I)Z"⟩
abbrev cX3_lost : ByteArray := prog_5_method_40_code
def yX3_lost : MethodName := ⟨RX3, "lost", "(I)I"⟩
abbrev cX3_owner : ByteArray := prog_5_method_41_code
def yX3_owner : MethodName := ⟨RX3, "owner", "(I)I"⟩
abbrev cX3_free : ByteArray := prog_5_method_42_code
def yX3_free : MethodName := ⟨RX3, "free", "()I"⟩
abbrev cX3_spoken : ByteArray := prog_5_method_43_code
def yX3_spoken : MethodName := ⟨RX3, "spoken", "()I"⟩
abbrev cX3_gone : ByteArray := prog_5_method_44_code
def yX3_gone : MethodName := ⟨RX3, "gone", "()I"⟩
abbrev cX3_usedShare : ByteArray := prog_5_method_45_code
def yX3_usedShare : MethodName := ⟨RX3, "usedShare", "()D"⟩
abbrev cX3_go : ByteArray := prog_5_method_46_code
def yX3_go : MethodName := ⟨RX3, "go", "(I)I"⟩
abbrev cX3_play : ByteArray := prog_5_method_47_code
def yX3_play : MethodName := ⟨RX3, "play", "()I"⟩
abbrev cX3_back : ByteArray := prog_5_method_48_code
def yX3_back : MethodName := ⟨RX3, "back", "(I)I"⟩
abbrev cX3_playing : ByteArray := prog_5_method_49_code
def yX3_playing : MethodName := ⟨RX3, "playing", "()I"⟩
abbrev cX3_place : ByteArray := prog_5_method_50_code
def yX3_place : MethodName := ⟨RX3, "place", "()I"⟩
abbrev cX3_correct : ByteArray := prog_5_method_51_code
def yX3_correct : MethodName := ⟨RX3, "correct", "(III)I"⟩
abbrev cX3_carbon : ByteArray := prog_5_method_52_code
def yX3_carbon : MethodName := ⟨RX3, "carbon", "(II)I"⟩
abbrev cX3_correctedCells : ByteArray := prog_5_method_53_code
def yX3_correctedCells : MethodName := ⟨RX3, "correctedCells", "()I"⟩
abbrev cX3_corrected : ByteArray := prog_5_method_54_code
def yX3_corrected : MethodName := ⟨RX3, "corrected", "()I"⟩
abbrev cX3_room : ByteArray := prog_5_method_55_code
def yX3_room : MethodName := ⟨RX3, "room", "()I"⟩
abbrev cX3_loser : ByteArray := prog_5_method_56_code
def yX3_loser : MethodName := ⟨RX3, "loser", "()I"⟩
abbrev cX3_nextLoser : ByteArray := prog_5_method_57_code
def yX3_nextLoser : MethodName := ⟨RX3, "nextLoser", "()I"⟩
abbrev cX3_loss : ByteArray := prog_5_method_58_code
def yX3_loss : MethodName := ⟨RX3, "loss", "(II)I"⟩
abbrev cX3_lossOf : ByteArray := prog_5_method_59_code
def yX3_lossOf : MethodName := ⟨RX3, "lossOf", "(II)I"⟩
abbrev cX3_goneAfter : ByteArray := prog_5_method_60_code
def yX3_goneAfter : MethodName := ⟨RX3, "goneAfter", "(I)I"⟩
abbrev cX3_append : ByteArray := prog_5_method_61_code
def yX3_append : MethodName := ⟨RX3, "append", "(I)I"⟩
abbrev cX3_clearText : ByteArray := prog_5_method_62_code
def yX3_clearText : MethodName := ⟨RX3, "clearText", "()I"⟩
abbrev cX3_sign : ByteArray := prog_5_method_63_code
def yX3_sign : MethodName := ⟨RX3, "sign", "()I"⟩
abbrev cX3_takes : ByteArray := prog_5_method_64_code
def yX3_takes : MethodName := ⟨RX3, "takes", "(I)Z"⟩
abbrev cX3_number : ByteArray := prog_5_method_65_code
def yX3_number : MethodName := ⟨RX3, "number", "(II)I"⟩
abbrev cX3_readsOrder : ByteArray := prog_5_method_66_code
def yX3_readsOrder : MethodName := ⟨RX3, "readsOrder", "()Z"⟩
abbrev cX3_areOrders : ByteArray := prog_5_method_67_code
def yX3_areOrders : MethodName := ⟨RX3, "areOrders", "()Z"⟩
abbrev cX3_firstError : ByteArray := prog_5_method_68_code
def yX3_firstError : MethodName := ⟨RX3, "firstError", "()I"⟩
abbrev cX3_can : ByteArray := prog_5_method_69_code
def yX3_can : MethodName := ⟨RX3, "can", "()Z"⟩
abbrev cX3_does : ByteArray := prog_5_method_70_code
def yX3_does : MethodName := ⟨RX3, "does", "()V"⟩
abbrev cX3_run : ByteArray := prog_5_method_71_code
def yX3_run : MethodName := ⟨RX3, "run", "()I"⟩
abbrev cX3_undo : ByteArray := prog_5_method_72_code
def yX3_undo : MethodName := ⟨RX3, "undo", "()I"⟩
abbrev cX3_savedStates : ByteArray := prog_5_method_73_code
def yX3_savedStates : MethodName := ⟨RX3, "savedStates", "()I"⟩
abbrev cX3_mix : ByteArray := prog_5_method_74_code
def yX3_mix : MethodName := ⟨RX3, "mix", "(J)V"⟩
abbrev cX3_digest : ByteArray := prog_5_method_75_code
def yX3_digest : MethodName := ⟨RX3, "digest", "()J"⟩
def RJ9 : String := "java/lang/Math"
def TJ9 : u_T := fun k => match k with
  | _ => ("", "", "", false)
def tyJ9 : Nat → FieldType := fun k => match k with
  | _ => .int
abbrev wsJ90 : List Cond := u_ws RJ9 TJ9 0
theorem nmJ9 : ∀ a, a < 0 → ∀ b, b < 0 → a ≠ b → (TJ9 a).2.1 ≠ (TJ9 b).2.1 := by decide +kernel
theorem tyJ9_ok : ∀ k, k < 0 → parseFieldDescriptor (TJ9 k).2.2.1 = some (tyJ9 k) := by decide +kernel
abbrev cJ9_max_7cf53 : ByteArray := prog_10_method_65_code
def yJ9_max_7cf53 : MethodName := ⟨RJ9, "max", "(II)I"⟩
abbrev cJ9_min_7cf53 : ByteArray := prog_10_method_69_code
def yJ9_min_7cf53 : MethodName := ⟨RJ9, "min", "(II)I"⟩
def RJ0 : String := "java/lang/String"
def TJ0 : u_T := fun k => match k with
  | _ => ("", "", "", false)
def tyJ0 : Nat → FieldType := fun k => match k with
  | _ => .int
abbrev wsJ00 : List Cond := u_ws RJ0 TJ0 0
theorem nmJ0 : ∀ a, a < 0 → ∀ b, b < 0 → a ≠ b → (TJ0 a).2.1 ≠ (TJ0 b).2.1 := by decide +kernel
theorem tyJ0_ok : ∀ k, k < 0 → parseFieldDescriptor (TJ0 k).2.2.1 = some (tyJ0 k) := by decide +kernel
def RJ10 : String := "java/lang/System"
def TJ10 : u_T := fun k => match k with
  | _ => ("", "", "", false)
def tyJ10 : Nat → FieldType := fun k => match k with
  | _ => .int
abbrev wsJ100 : List Cond := u_ws RJ10 TJ10 0
theorem nmJ10 : ∀ a, a < 0 → ∀ b, b < 0 → a ≠ b → (TJ10 a).2.1 ≠ (TJ10 b).2.1 := by decide +kernel
theorem tyJ10_ok : ∀ k, k < 0 → parseFieldDescriptor (TJ10 k).2.2.1 = some (tyJ10 k) := by decide +kernel
def RL : String := "DictationBeltLaw"
abbrev cL_begin : ByteArray := method_3_code
def yL_begin : MethodName := ⟨RL, "begin", "(LDictationBelt;[J)I"⟩
abbrev cL_halt : ByteArray := method_4_code
def yL_halt : MethodName := ⟨RL, "halt", "(LDictationBelt;[J)I"⟩
abbrev cL_speak : ByteArray := method_5_code
def yL_speak : MethodName := ⟨RL, "speak", "(LDictationBelt;I[J)I"⟩
abbrev cL_setFlag : ByteArray := method_6_code
def yL_setFlag : MethodName := ⟨RL, "setFlag", "(LDictationBelt;IZ[J)I"⟩
abbrev cL_erase : ByteArray := method_7_code
def yL_erase : MethodName := ⟨RL, "erase", "(LDictationBelt;I[J)I"⟩
abbrev cL_moveHead : ByteArray := method_8_code
def yL_moveHead : MethodName := ⟨RL, "moveHead", "(LDictationBelt;I[J)I"⟩
abbrev cL_length : ByteArray := method_9_code
def yL_length : MethodName := ⟨RL, "length", "(LDictationBelt;I[J)I"⟩
abbrev cL_sound : ByteArray := method_10_code
def yL_sound : MethodName := ⟨RL, "sound", "(LDictationBelt;II[J)I"⟩
abbrev cL_cellOf : ByteArray := method_11_code
def yL_cellOf : MethodName := ⟨RL, "cellOf", "(LDictationBelt;II[J)I"⟩
abbrev cL_hasFlag : ByteArray := method_12_code
def yL_hasFlag : MethodName := ⟨RL, "hasFlag", "(LDictationBelt;I[J)I"⟩
abbrev cL_lost : ByteArray := method_13_code
def yL_lost : MethodName := ⟨RL, "lost", "(LDictationBelt;I[J)I"⟩
abbrev cL_owner : ByteArray := method_14_code
def yL_owner : MethodName := ⟨RL, "owner", "(LDictationBelt;I[J)I"⟩
abbrev cL_go : ByteArray := method_15_code
def yL_go : MethodName := ⟨RL, "go", "(LDictationBelt;I[J)I"⟩
abbrev cL_play : ByteArray := method_16_code
def yL_play : MethodName := ⟨RL, "play", "(LDictationBelt;[J)I"⟩
abbrev cL_back : ByteArray := method_17_code
def yL_back : MethodName := ⟨RL, "back", "(LDictationBelt;I[J)I"⟩
abbrev cL_correct : ByteArray := method_18_code
def yL_correct : MethodName := ⟨RL, "correct", "(LDictationBelt;III[J)I"⟩
abbrev cL_carbon : ByteArray := method_19_code
def yL_carbon : MethodName := ⟨RL, "carbon", "(LDictationBelt;II[J)I"⟩
abbrev cL_lossOf : ByteArray := method_20_code
def yL_lossOf : MethodName := ⟨RL, "lossOf", "(LDictationBelt;II[J)I"⟩
abbrev cL_goneAfter : ByteArray := method_21_code
def yL_goneAfter : MethodName := ⟨RL, "goneAfter", "(LDictationBelt;I[J)I"⟩
abbrev cL_append : ByteArray := method_22_code
def yL_append : MethodName := ⟨RL, "append", "(LDictationBelt;I[J)I"⟩
abbrev cL_run : ByteArray := method_23_code
def yL_run : MethodName := ⟨RL, "run", "(LDictationBelt;[J)I"⟩
abbrev cL_undo : ByteArray := method_24_code
def yL_undo : MethodName := ⟨RL, "undo", "(LDictationBelt;[J)I"⟩
abbrev cL_law : ByteArray := code
def yL_law : MethodName := ⟨RL, "law", "([I)Z"⟩
def wsL_law0_r1 : List Cond := [Cond.classLink RL 8 RX2, Cond.instantiable RX2 5, Cond.initialized RX2, Cond.classLink RL 88 RX3, Cond.instantiable RX3 10, Cond.initialized RX3, Cond.arrayClass .long, Cond.methodLink RL 87 yX2_init, Cond.instanceMethod yX2_init, Cond.code yX2_init cX2_init 2 none, Cond.methodLink RX2 1 objectInit, Cond.instanceMethod objectInit, Cond.code objectInit ⟨#[0xb1]⟩ 1 none, Cond.classLink RX2 7 RX1, Cond.instantiable RX1 14, Cond.initialized RX1, Cond.fieldLink RX2 10 "DictationBelt" "now" "LDictationBelt$State;", Cond.fieldLink RX2 16 "DictationBelt" "saved" "[LDictationBelt$State;", Cond.fieldLink RX2 20 "DictationBelt" "nextSlot" "I", Cond.fieldLink RX2 24 "DictationBelt" "savedCount" "I", Cond.classLink RX2 27 RX0, Cond.instantiable RX0 2, Cond.initialized RX0, Cond.fieldLink RX2 30 "DictationBelt" "text" "LDictationBelt$OrderText;"]
def wsL_law0_r2 : List Cond := [Cond.methodLink RX2 9 yX1_init, Cond.instanceMethod yX1_init, Cond.code yX1_init cX1_init 2 none, Cond.methodLink RX1 3 objectInit, Cond.arrayClass .int, Cond.fieldLink RX1 9 "DictationBelt$State" "owners" "[I", Cond.fieldLink RX1 15 "DictationBelt$State" "sounds" "[I", Cond.fieldLink RX1 18 "DictationBelt$State" "carbons" "[I", Cond.fieldLink RX1 21 "DictationBelt$State" "order" "[I", Cond.fieldLink RX1 24 "DictationBelt$State" "used" "I", Cond.fieldLink RX1 28 "DictationBelt$State" "flags" "[I", Cond.fieldLink RX1 31 "DictationBelt$State" "losses" "[I", Cond.fieldLink RX1 34 "DictationBelt$State" "count" "I", Cond.fieldLink RX1 37 "DictationBelt$State" "isRunning" "Z", Cond.fieldLink RX1 41 "DictationBelt$State" "head" "I", Cond.fieldLink RX1 44 "DictationBelt$State" "spoken" "I", Cond.fieldLink RX1 47 "DictationBelt$State" "gone" "I", Cond.fieldLink RX1 50 "DictationBelt$State" "player" "I", Cond.fieldLink RX1 53 "DictationBelt$State" "place" "I", Cond.methodLink RX2 29 yX0_init, Cond.instanceMethod yX0_init, Cond.code yX0_init cX0_init 1 none, Cond.methodLink RX0 3 objectInit, Cond.fieldLink RX0 9 "DictationBelt$OrderText" "codes" "[I"]
def wsL_law0_r3 : List Cond := [Cond.fieldLink RX0 15 "DictationBelt$OrderText" "length" "I", Cond.methodLink RL 90 yX3_init, Cond.instanceMethod yX3_init, Cond.code yX3_init cX3_init 2 none, Cond.methodLink RX3 1 objectInit, Cond.fieldLink RX3 7 "DictationBeltModel" "s" "[I", Cond.fieldLink RX3 13 "DictationBeltModel" "text" "[I", Cond.methodLink RL 91 yL_begin, Cond.static yL_begin, Cond.initialized RL, Cond.codeWith yL_begin cL_begin 3 (some .int) [(0, 8, 11, 13)], Cond.classLink RL 13 "java/lang/IllegalStateException", Cond.methodLink RL 7 yX2_begin, Cond.instanceMethod yX2_begin, Cond.selects RX2 yX2_begin yX2_begin, Cond.code yX2_begin cX2_begin 1 (some .int), Cond.classLink RX2 38 "java/lang/IllegalStateException", Cond.initialized "java/lang/IllegalStateException", Cond.methodLink RX2 34 yX1_mayBegin, Cond.instanceMethod yX1_mayBegin, Cond.selects RX1 yX1_mayBegin yX1_mayBegin, Cond.code yX1_mayBegin cX1_mayBegin 1 (some .boolean), Cond.methodLink RX1 70 yX1_runningNumber, Cond.instanceMethod yX1_runningNumber]
def wsL_law0_r4 : List Cond := [Cond.selects RX1 yX1_runningNumber yX1_runningNumber, Cond.code yX1_runningNumber cX1_runningNumber 1 (some .int), Cond.methodLink RX1 74 yX1_cellCount, Cond.instanceMethod yX1_cellCount, Cond.selects RX1 yX1_cellCount yX1_cellCount, Cond.code yX1_cellCount cX1_cellCount 4 (some .int), Cond.static yX2_valueAt, Cond.code yX2_valueAt cX2_valueAt 2 (some .int), Cond.methodLink RX2 45 yX2_save, Cond.instanceMethod yX2_save, Cond.selects RX2 yX2_save yX2_save, Cond.code yX2_save cX2_save 2 none, Cond.methodLink RX2 208 yX2_slotAt, Cond.instanceMethod yX2_slotAt, Cond.selects RX2 yX2_slotAt yX2_slotAt, Cond.code yX2_slotAt cX2_slotAt 2 (some (.object "DictationBelt$State")), Cond.methodLink RX2 212 yX1_copyFrom, Cond.instanceMethod yX1_copyFrom, Cond.selects RX1 yX1_copyFrom yX1_copyFrom, Cond.code yX1_copyFrom cX1_copyFrom 2 none, Cond.methodLink RX1 56 arraycopyName, Cond.native arraycopyName, Cond.static arraycopyName, Cond.initialized "java/lang/System"]
def wsL_law0_r5 : List Cond := [Cond.methodLink RX2 48 yX1_beginRecording, Cond.instanceMethod yX1_beginRecording, Cond.selects RX1 yX1_beginRecording yX1_beginRecording, Cond.code yX1_beginRecording cX1_beginRecording 2 (some .int), Cond.methodLink RX1 78 yX1_stopRecording, Cond.instanceMethod yX1_stopRecording, Cond.selects RX1 yX1_stopRecording yX1_stopRecording, Cond.code yX1_stopRecording cX1_stopRecording 3 (some .int), Cond.methodLink RX1 81 yX1_removeRecording, Cond.instanceMethod yX1_removeRecording, Cond.selects RX1 yX1_removeRecording yX1_removeRecording, Cond.code yX1_removeRecording cX1_removeRecording 4 none, Cond.static yX2_putAt, Cond.code yX2_putAt cX2_putAt 3 none, Cond.methodLink RL 96 yX3_begin, Cond.instanceMethod yX3_begin, Cond.selects RX3 yX3_begin yX3_begin, Cond.code yX3_begin cX3_begin 1 (some .int), Cond.methodLink RX3 60 yX3_canBegin, Cond.instanceMethod yX3_canBegin, Cond.selects RX3 yX3_canBegin yX3_canBegin, Cond.code yX3_canBegin cX3_canBegin 1 (some .boolean), Cond.methodLink RX3 32 yX3_cells, Cond.instanceMethod yX3_cells]
def wsL_law0_r6 : List Cond := [Cond.selects RX3 yX3_cells yX3_cells, Cond.code yX3_cells cX3_cells 4 (some .int), Cond.methodLink RX3 64 yX3_holds, Cond.instanceMethod yX3_holds, Cond.selects RX3 yX3_holds yX3_holds, Cond.code yX3_holds cX3_holds 2 (some .boolean), Cond.fieldLink RX3 16 "DictationBeltModel" "thrown" "I", Cond.methodLink RX3 67 yX3_save, Cond.instanceMethod yX3_save, Cond.selects RX3 yX3_save yX3_save, Cond.code yX3_save cX3_save 2 none, Cond.fieldLink RX3 53 "DictationBeltModel" "saved" "I", Cond.methodLink RX3 56 yX3_copies, Cond.instanceMethod yX3_copies, Cond.selects RX3 yX3_copies yX3_copies, Cond.code yX3_copies cX3_copies 4 none, Cond.methodLink RX3 70 yX3_begins, Cond.instanceMethod yX3_begins, Cond.selects RX3 yX3_begins yX3_begins, Cond.code yX3_begins cX3_begins 1 (some .int), Cond.methodLink RX3 42 yX3_halts, Cond.instanceMethod yX3_halts, Cond.selects RX3 yX3_halts yX3_halts, Cond.code yX3_halts cX3_halts 3 (some .int)]
def wsL_law0_r7 : List Cond := [Cond.methodLink RX3 35 yX3_leaves, Cond.instanceMethod yX3_leaves, Cond.selects RX3 yX3_leaves yX3_leaves, Cond.code yX3_leaves cX3_leaves 4 none, Cond.methodLink RL 97 yX3_thrown, Cond.instanceMethod yX3_thrown, Cond.selects RX3 yX3_thrown yX3_thrown, Cond.code yX3_thrown cX3_thrown 1 (some .int), Cond.methodLink RL 100 yL_halt, Cond.static yL_halt, Cond.codeWith yL_halt cL_halt 3 (some .int) [(0, 8, 11, 13)], Cond.methodLink RL 15 yX2_halt, Cond.instanceMethod yX2_halt, Cond.selects RX2 yX2_halt yX2_halt, Cond.code yX2_halt cX2_halt 1 (some .int), Cond.fieldLink RX2 52 "DictationBelt$State" "isRunning" "Z", Cond.methodLink RX2 58 yX1_stopRecording, Cond.methodLink RL 102 yX3_halt, Cond.instanceMethod yX3_halt, Cond.selects RX3 yX3_halt yX3_halt, Cond.code yX3_halt cX3_halt 1 (some .int), Cond.methodLink RL 103 yL_speak, Cond.static yL_speak, Cond.codeWith yL_speak cL_speak 4 (some .int) [(0, 9, 12, 22), (0, 9, 15, 13)]]
def wsL_law0_r8 : List Cond := [Cond.classLink RL 22 "java/lang/IllegalArgumentException", Cond.methodLink RL 18 yX2_speak, Cond.instanceMethod yX2_speak, Cond.selects RX2 yX2_speak yX2_speak, Cond.code yX2_speak cX2_speak 2 (some .int), Cond.methodLink RX2 61 yX2_requireSound, Cond.static yX2_requireSound, Cond.code yX2_requireSound cX2_requireSound 1 none, Cond.classLink RX2 149 "java/lang/IllegalArgumentException", Cond.initialized "java/lang/IllegalArgumentException", Cond.methodLink RX2 65 yX1_maySpeak, Cond.instanceMethod yX1_maySpeak, Cond.selects RX1 yX1_maySpeak yX1_maySpeak, Cond.code yX1_maySpeak cX1_maySpeak 2 (some .boolean), Cond.methodLink RX1 95 yX1_writableCells, Cond.instanceMethod yX1_writableCells, Cond.selects RX1 yX1_writableCells yX1_writableCells, Cond.code yX1_writableCells cX1_writableCells 3 (some .int), Cond.methodLink RX1 88 yX1_isWritable, Cond.instanceMethod yX1_isWritable, Cond.selects RX1 yX1_isWritable yX1_isWritable, Cond.code yX1_isWritable cX1_isWritable 3 (some .boolean), Cond.methodLink RX2 71 yX1_speakTimes, Cond.instanceMethod yX1_speakTimes]
def wsL_law0_r9 : List Cond := [Cond.selects RX1 yX1_speakTimes yX1_speakTimes, Cond.code yX1_speakTimes cX1_speakTimes 5 (some .int), Cond.methodLink RX1 98 yX1_firstWritable, Cond.instanceMethod yX1_firstWritable, Cond.selects RX1 yX1_firstWritable yX1_firstWritable, Cond.code yX1_firstWritable cX1_firstWritable 3 (some .int), Cond.methodLink RX1 92 yX1_cellFromHead, Cond.instanceMethod yX1_cellFromHead, Cond.selects RX1 yX1_cellFromHead yX1_cellFromHead, Cond.code yX1_cellFromHead cX1_cellFromHead 2 (some .int), Cond.methodLink RX1 101 yX1_loseCell, Cond.instanceMethod yX1_loseCell, Cond.selects RX1 yX1_loseCell yX1_loseCell, Cond.code yX1_loseCell cX1_loseCell 3 none, Cond.methodLink RX1 108 yX1_cellsBefore, Cond.instanceMethod yX1_cellsBefore, Cond.selects RX1 yX1_cellsBefore yX1_cellsBefore, Cond.code yX1_cellsBefore cX1_cellsBefore 6 (some .int), Cond.methodLink RX1 85 yX1_dropFreeCells, Cond.instanceMethod yX1_dropFreeCells, Cond.selects RX1 yX1_dropFreeCells yX1_dropFreeCells, Cond.code yX1_dropFreeCells cX1_dropFreeCells 4 none, Cond.methodLink RX1 104 yX1_writeCell, Cond.instanceMethod yX1_writeCell]
def wsL_law0_r10 : List Cond := [Cond.selects RX1 yX1_writeCell yX1_writeCell, Cond.code yX1_writeCell cX1_writeCell 3 none, Cond.methodLink RL 106 yX3_speak, Cond.instanceMethod yX3_speak, Cond.selects RX3 yX3_speak yX3_speak, Cond.code yX3_speak cX3_speak 2 (some .int), Cond.methodLink RX3 73 yX3_isSound, Cond.static yX3_isSound, Cond.code yX3_isSound cX3_isSound 1 (some .boolean), Cond.methodLink RX3 20 yX3_in, Cond.static yX3_in, Cond.code yX3_in cX3_in 3 (some .boolean), Cond.methodLink RX3 76 yX3_canSpeak, Cond.instanceMethod yX3_canSpeak, Cond.selects RX3 yX3_canSpeak yX3_canSpeak, Cond.code yX3_canSpeak cX3_canSpeak 2 (some .boolean), Cond.methodLink RX3 46 yX3_writable, Cond.instanceMethod yX3_writable, Cond.selects RX3 yX3_writable yX3_writable, Cond.code yX3_writable cX3_writable 3 (some .int), Cond.methodLink RX3 28 yX3_isWritable, Cond.instanceMethod yX3_isWritable, Cond.selects RX3 yX3_isWritable yX3_isWritable, Cond.code yX3_isWritable cX3_isWritable 3 (some .boolean)]
def wsL_law0_r11 : List Cond := [Cond.methodLink RX3 79 yX3_speaks, Cond.instanceMethod yX3_speaks, Cond.selects RX3 yX3_speaks yX3_speaks, Cond.code yX3_speaks cX3_speaks 3 (some .int), Cond.methodLink RX3 39 yX3_loses, Cond.instanceMethod yX3_loses, Cond.selects RX3 yX3_loses yX3_loses, Cond.code yX3_loses cX3_loses 3 none, Cond.methodLink RX3 24 yX3_placeOf, Cond.instanceMethod yX3_placeOf, Cond.selects RX3 yX3_placeOf yX3_placeOf, Cond.code yX3_placeOf cX3_placeOf 4 (some .int), Cond.methodLink RL 107 yL_setFlag, Cond.static yL_setFlag, Cond.codeWith yL_setFlag cL_setFlag 5 (some .int) [(0, 17, 20, 28)], Cond.classLink RL 28 "java/lang/IndexOutOfBoundsException", Cond.methodLink RL 24 yX2_setFlag, Cond.instanceMethod yX2_setFlag, Cond.selects RX2 yX2_setFlag yX2_setFlag, Cond.code yX2_setFlag cX2_setFlag 4 (some .boolean), Cond.methodLink RX2 75 yX2_requireRecording, Cond.instanceMethod yX2_requireRecording, Cond.selects RX2 yX2_requireRecording yX2_requireRecording, Cond.code yX2_requireRecording cX2_requireRecording 2 none]
def wsL_law0_r12 : List Cond := [Cond.classLink RX2 279 "java/lang/IndexOutOfBoundsException", Cond.initialized "java/lang/IndexOutOfBoundsException", Cond.methodLink RX2 276 yX1_isRecording, Cond.instanceMethod yX1_isRecording, Cond.selects RX1 yX1_isRecording yX1_isRecording, Cond.code yX1_isRecording cX1_isRecording 2 (some .boolean), Cond.methodLink RX2 78 yX1_isFlagged, Cond.instanceMethod yX1_isFlagged, Cond.selects RX1 yX1_isFlagged yX1_isFlagged, Cond.code yX1_isFlagged cX1_isFlagged 2 (some .boolean), Cond.methodLink RX2 81 yX1_putFlag, Cond.instanceMethod yX1_putFlag, Cond.selects RX1 yX1_putFlag yX1_putFlag, Cond.code yX1_putFlag cX1_putFlag 3 none, Cond.methodLink RL 110 yX3_setFlag, Cond.instanceMethod yX3_setFlag, Cond.selects RX3 yX3_setFlag yX3_setFlag, Cond.code yX3_setFlag cX3_setFlag 4 (some .boolean), Cond.methodLink RX3 82 yX3_isRecording, Cond.instanceMethod yX3_isRecording, Cond.selects RX3 yX3_isRecording yX3_isRecording, Cond.code yX3_isRecording cX3_isRecording 2 (some .boolean), Cond.methodLink RL 111 yL_erase, Cond.static yL_erase]
def wsL_law0_r13 : List Cond := [Cond.codeWith yL_erase cL_erase 4 (some .int) [(0, 9, 12, 28), (0, 9, 15, 13)], Cond.methodLink RL 30 yX2_erase, Cond.instanceMethod yX2_erase, Cond.selects RX2 yX2_erase yX2_erase, Cond.code yX2_erase cX2_erase 2 (some .int), Cond.methodLink RX2 87 yX1_eraseRecording, Cond.instanceMethod yX1_eraseRecording, Cond.selects RX1 yX1_eraseRecording yX1_eraseRecording, Cond.code yX1_eraseRecording cX1_eraseRecording 4 (some .int), Cond.methodLink RL 113 yX3_erase, Cond.instanceMethod yX3_erase, Cond.selects RX3 yX3_erase yX3_erase, Cond.code yX3_erase cX3_erase 4 (some .int), Cond.methodLink RL 114 yL_moveHead, Cond.static yL_moveHead, Cond.codeWith yL_moveHead cL_moveHead 4 (some .int) [(0, 9, 12, 28), (0, 9, 15, 13)], Cond.methodLink RL 33 yX2_moveHead, Cond.instanceMethod yX2_moveHead, Cond.selects RX2 yX2_moveHead yX2_moveHead, Cond.code yX2_moveHead cX2_moveHead 3 (some .int), Cond.fieldLink RX2 96 "DictationBelt$State" "head" "I", Cond.methodLink RX2 91 yX2_requireCell, Cond.static yX2_requireCell, Cond.code yX2_requireCell cX2_requireCell 1 none]
def wsL_law0_r14 : List Cond := [Cond.methodLink RL 116 yX3_moveHead, Cond.instanceMethod yX3_moveHead, Cond.selects RX3 yX3_moveHead yX3_moveHead, Cond.code yX3_moveHead cX3_moveHead 3 (some .int), Cond.methodLink RX3 85 yX3_isCell, Cond.static yX3_isCell, Cond.code yX3_isCell cX3_isCell 1 (some .boolean), Cond.methodLink RL 117 yX2_recordings, Cond.instanceMethod yX2_recordings, Cond.selects RX2 yX2_recordings yX2_recordings, Cond.code yX2_recordings cX2_recordings 1 (some .int), Cond.fieldLink RX2 99 "DictationBelt$State" "count" "I", Cond.methodLink RL 120 yX3_recordings, Cond.instanceMethod yX3_recordings, Cond.selects RX3 yX3_recordings yX3_recordings, Cond.code yX3_recordings cX3_recordings 1 (some .int), Cond.methodLink RX3 88 yX3_told, Cond.instanceMethod yX3_told, Cond.selects RX3 yX3_told yX3_told, Cond.code yX3_told cX3_told 2 (some .int), Cond.methodLink RL 121 yX2_running, Cond.instanceMethod yX2_running, Cond.selects RX2 yX2_running yX2_running, Cond.code yX2_running cX2_running 1 (some .int)]
def wsL_law0_r15 : List Cond := [Cond.methodLink RX2 102 yX1_runningNumber, Cond.methodLink RL 124 yX3_running, Cond.instanceMethod yX3_running, Cond.selects RX3 yX3_running yX3_running, Cond.code yX3_running cX3_running 1 (some .int), Cond.methodLink RL 125 yX2_head, Cond.instanceMethod yX2_head, Cond.selects RX2 yX2_head yX2_head, Cond.code yX2_head cX2_head 1 (some .int), Cond.methodLink RL 128 yX3_head, Cond.instanceMethod yX3_head, Cond.selects RX3 yX3_head yX3_head, Cond.code yX3_head cX3_head 1 (some .int), Cond.methodLink RL 129 yL_length, Cond.static yL_length, Cond.codeWith yL_length cL_length 4 (some .int) [(0, 9, 12, 28)], Cond.methodLink RL 36 yX2_length, Cond.instanceMethod yX2_length, Cond.selects RX2 yX2_length yX2_length, Cond.code yX2_length cX2_length 2 (some .int), Cond.methodLink RX2 105 yX1_cellCount, Cond.methodLink RL 131 yX3_length, Cond.instanceMethod yX3_length, Cond.selects RX3 yX3_length yX3_length]
def wsL_law0_r16 : List Cond := [Cond.code yX3_length cX3_length 2 (some .int), Cond.methodLink RL 132 yL_sound, Cond.static yL_sound, Cond.codeWith yL_sound cL_sound 5 (some .int) [(0, 10, 13, 28)], Cond.methodLink RL 39 yX2_sound, Cond.instanceMethod yX2_sound, Cond.selects RX2 yX2_sound yX2_sound, Cond.code yX2_sound cX2_sound 3 (some .int), Cond.fieldLink RX2 112 "DictationBelt$State" "sounds" "[I", Cond.methodLink RX2 108 yX2_requirePlace, Cond.instanceMethod yX2_requirePlace, Cond.selects RX2 yX2_requirePlace yX2_requirePlace, Cond.code yX2_requirePlace cX2_requirePlace 3 none, Cond.methodLink RX2 116 yX1_cellAt, Cond.instanceMethod yX1_cellAt, Cond.selects RX1 yX1_cellAt yX1_cellAt, Cond.code yX1_cellAt cX1_cellAt 6 (some .int), Cond.methodLink RX2 119 yX2_valueAt, Cond.methodLink RL 135 yX3_sound, Cond.instanceMethod yX3_sound, Cond.selects RX3 yX3_sound yX3_sound, Cond.code yX3_sound cX3_sound 3 (some .int), Cond.methodLink RX3 91 yX3_ofPlace, Cond.instanceMethod yX3_ofPlace]
def wsL_law0_r17 : List Cond := [Cond.selects RX3 yX3_ofPlace yX3_ofPlace, Cond.code yX3_ofPlace cX3_ofPlace 5 (some .int), Cond.methodLink RX3 49 yX3_cellAt, Cond.instanceMethod yX3_cellAt, Cond.selects RX3 yX3_cellAt yX3_cellAt, Cond.code yX3_cellAt cX3_cellAt 4 (some .int), Cond.methodLink RL 136 yL_cellOf, Cond.static yL_cellOf, Cond.codeWith yL_cellOf cL_cellOf 5 (some .int) [(0, 10, 13, 28)], Cond.methodLink RL 43 yX2_cellOf, Cond.instanceMethod yX2_cellOf, Cond.selects RX2 yX2_cellOf yX2_cellOf, Cond.code yX2_cellOf cX2_cellOf 3 (some .int), Cond.methodLink RL 138 yX3_cellOf, Cond.instanceMethod yX3_cellOf, Cond.selects RX3 yX3_cellOf yX3_cellOf, Cond.code yX3_cellOf cX3_cellOf 3 (some .int), Cond.methodLink RL 139 yL_hasFlag, Cond.static yL_hasFlag, Cond.codeWith yL_hasFlag cL_hasFlag 4 (some .int) [(0, 16, 19, 28)], Cond.methodLink RL 46 yX2_hasFlag, Cond.instanceMethod yX2_hasFlag, Cond.selects RX2 yX2_hasFlag yX2_hasFlag, Cond.code yX2_hasFlag cX2_hasFlag 2 (some .boolean)]
def wsL_law0_r18 : List Cond := [Cond.methodLink RL 141 yX3_hasFlag, Cond.instanceMethod yX3_hasFlag, Cond.selects RX3 yX3_hasFlag yX3_hasFlag, Cond.code yX3_hasFlag cX3_hasFlag 2 (some .boolean), Cond.methodLink RL 142 yL_lost, Cond.static yL_lost, Cond.codeWith yL_lost cL_lost 4 (some .int) [(0, 9, 12, 28)], Cond.methodLink RL 50 yX2_lost, Cond.instanceMethod yX2_lost, Cond.selects RX2 yX2_lost yX2_lost, Cond.code yX2_lost cX2_lost 2 (some .int), Cond.fieldLink RX2 123 "DictationBelt$State" "losses" "[I", Cond.methodLink RL 144 yX3_lost, Cond.instanceMethod yX3_lost, Cond.selects RX3 yX3_lost yX3_lost, Cond.code yX3_lost cX3_lost 2 (some .int), Cond.methodLink RL 145 yL_owner, Cond.static yL_owner, Cond.codeWith yL_owner cL_owner 4 (some .int) [(0, 9, 12, 28)], Cond.methodLink RL 53 yX2_owner, Cond.instanceMethod yX2_owner, Cond.selects RX2 yX2_owner yX2_owner, Cond.code yX2_owner cX2_owner 2 (some .int), Cond.fieldLink RX2 126 "DictationBelt$State" "owners" "[I"]
def wsL_law0_r19 : List Cond := [Cond.methodLink RL 147 yX3_owner, Cond.instanceMethod yX3_owner, Cond.selects RX3 yX3_owner yX3_owner, Cond.code yX3_owner cX3_owner 2 (some .int), Cond.methodLink RL 148 yX2_free, Cond.instanceMethod yX2_free, Cond.selects RX2 yX2_free yX2_free, Cond.code yX2_free cX2_free 1 (some .int), Cond.fieldLink RX2 129 "DictationBelt$State" "used" "I", Cond.methodLink RL 151 yX3_free, Cond.instanceMethod yX3_free, Cond.selects RX3 yX3_free yX3_free, Cond.code yX3_free cX3_free 1 (some .int), Cond.methodLink RL 152 yX2_spoken, Cond.instanceMethod yX2_spoken, Cond.selects RX2 yX2_spoken yX2_spoken, Cond.code yX2_spoken cX2_spoken 1 (some .int), Cond.fieldLink RX2 132 "DictationBelt$State" "spoken" "I", Cond.methodLink RL 155 yX3_spoken, Cond.instanceMethod yX3_spoken, Cond.selects RX3 yX3_spoken yX3_spoken, Cond.code yX3_spoken cX3_spoken 1 (some .int), Cond.methodLink RL 156 yX2_gone, Cond.instanceMethod yX2_gone]
def wsL_law0_r20 : List Cond := [Cond.selects RX2 yX2_gone yX2_gone, Cond.code yX2_gone cX2_gone 1 (some .int), Cond.fieldLink RX2 135 "DictationBelt$State" "gone" "I", Cond.methodLink RL 159 yX3_gone, Cond.instanceMethod yX3_gone, Cond.selects RX3 yX3_gone yX3_gone, Cond.code yX3_gone cX3_gone 1 (some .int), Cond.methodLink RL 160 yX2_usedShare, Cond.instanceMethod yX2_usedShare, Cond.selects RX2 yX2_usedShare yX2_usedShare, Cond.code yX2_usedShare cX2_usedShare 1 (some .double), Cond.constantDouble RX2 138 (4629700416936869888), Cond.methodLink RL 164 yX3_usedShare, Cond.instanceMethod yX3_usedShare, Cond.selects RX3 yX3_usedShare yX3_usedShare, Cond.code yX3_usedShare cX3_usedShare 1 (some .double), Cond.constantDouble RX3 95 (4629700416936869888), Cond.methodLink RL 165 yL_go, Cond.static yL_go, Cond.codeWith yL_go cL_go 4 (some .int) [(0, 9, 12, 28)], Cond.methodLink RL 56 yX2_go, Cond.instanceMethod yX2_go, Cond.selects RX2 yX2_go yX2_go, Cond.code yX2_go cX2_go 2 (some .int)]
def wsL_law0_r21 : List Cond := [Cond.methodLink RX2 140 yX1_bringPlayer, Cond.instanceMethod yX1_bringPlayer, Cond.selects RX1 yX1_bringPlayer yX1_bringPlayer, Cond.code yX1_bringPlayer cX1_bringPlayer 2 none, Cond.methodLink RL 167 yX3_go, Cond.instanceMethod yX3_go, Cond.selects RX3 yX3_go yX3_go, Cond.code yX3_go cX3_go 2 (some .int), Cond.methodLink RX3 97 yX3_goes, Cond.instanceMethod yX3_goes, Cond.selects RX3 yX3_goes yX3_goes, Cond.code yX3_goes cX3_goes 2 (some .int), Cond.methodLink RL 168 yL_play, Cond.static yL_play, Cond.codeWith yL_play cL_play 3 (some .int) [(0, 8, 11, 13)], Cond.methodLink RL 59 yX2_play, Cond.instanceMethod yX2_play, Cond.selects RX2 yX2_play yX2_play, Cond.code yX2_play cX2_play 1 (some .int), Cond.methodLink RX2 143 yX2_requirePlayer, Cond.instanceMethod yX2_requirePlayer, Cond.selects RX2 yX2_requirePlayer yX2_requirePlayer, Cond.code yX2_requirePlayer cX2_requirePlayer 1 none, Cond.fieldLink RX2 157 "DictationBelt$State" "player" "I"]
def wsL_law0_r22 : List Cond := [Cond.methodLink RX2 146 yX1_playCell, Cond.instanceMethod yX1_playCell, Cond.selects RX1 yX1_playCell yX1_playCell, Cond.code yX1_playCell cX1_playCell 2 (some .int), Cond.methodLink RX1 111 yX1_cellAt, Cond.methodLink RL 170 yX3_play, Cond.instanceMethod yX3_play, Cond.selects RX3 yX3_play yX3_play, Cond.code yX3_play cX3_play 1 (some .int), Cond.methodLink RX3 100 yX3_plays, Cond.instanceMethod yX3_plays, Cond.selects RX3 yX3_plays yX3_plays, Cond.code yX3_plays cX3_plays 2 (some .int), Cond.methodLink RL 171 yL_back, Cond.static yL_back, Cond.codeWith yL_back cL_back 4 (some .int) [(0, 9, 12, 22), (0, 9, 15, 13)], Cond.methodLink RL 62 yX2_back, Cond.instanceMethod yX2_back, Cond.selects RX2 yX2_back yX2_back, Cond.code yX2_back cX2_back 2 (some .int), Cond.methodLink RX2 154 yX1_stepBack, Cond.instanceMethod yX1_stepBack, Cond.selects RX1 yX1_stepBack yX1_stepBack, Cond.code yX1_stepBack cX1_stepBack 2 (some .int)]
def wsL_law0_r23 : List Cond := [Cond.methodLink RX1 115 Lib.Math.max.name, Cond.static Lib.Math.max.name, Cond.initialized "java/lang/Math", Cond.code Lib.Math.max.name Lib.Math.max.code 2 (some .int), Cond.methodLink RL 173 yX3_back, Cond.instanceMethod yX3_back, Cond.selects RX3 yX3_back yX3_back, Cond.code yX3_back cX3_back 2 (some .int), Cond.methodLink RX3 103 yX3_goesBack, Cond.instanceMethod yX3_goesBack, Cond.selects RX3 yX3_goesBack yX3_goesBack, Cond.code yX3_goesBack cX3_goesBack 2 (some .int), Cond.methodLink RL 174 yX2_playing, Cond.instanceMethod yX2_playing, Cond.selects RX2 yX2_playing yX2_playing, Cond.code yX2_playing cX2_playing 1 (some .int), Cond.methodLink RL 177 yX3_playing, Cond.instanceMethod yX3_playing, Cond.selects RX3 yX3_playing yX3_playing, Cond.code yX3_playing cX3_playing 1 (some .int), Cond.methodLink RL 178 yX2_place, Cond.instanceMethod yX2_place, Cond.selects RX2 yX2_place yX2_place, Cond.code yX2_place cX2_place 1 (some .int)]
def wsL_law0_r24 : List Cond := [Cond.fieldLink RX2 160 "DictationBelt$State" "place" "I", Cond.methodLink RL 181 yX3_place, Cond.instanceMethod yX3_place, Cond.selects RX3 yX3_place yX3_place, Cond.code yX3_place cX3_place 1 (some .int), Cond.methodLink RL 182 yL_correct, Cond.static yL_correct, Cond.codeWith yL_correct cL_correct 6 (some .int) [(0, 12, 15, 28), (0, 12, 19, 22), (0, 12, 23, 13)], Cond.methodLink RL 65 yX2_correct, Cond.instanceMethod yX2_correct, Cond.selects RX2 yX2_correct yX2_correct, Cond.code yX2_correct cX2_correct 6 (some .int), Cond.methodLink RX2 163 yX2_putAt, Cond.methodLink RL 185 yX3_correct, Cond.instanceMethod yX3_correct, Cond.selects RX3 yX3_correct yX3_correct, Cond.code yX3_correct cX3_correct 6 (some .int), Cond.methodLink RL 186 yL_carbon, Cond.static yL_carbon, Cond.codeWith yL_carbon cL_carbon 5 (some .int) [(0, 10, 13, 28)], Cond.methodLink RL 69 yX2_carbon, Cond.instanceMethod yX2_carbon, Cond.selects RX2 yX2_carbon yX2_carbon, Cond.code yX2_carbon cX2_carbon 3 (some .int)]
def wsL_law0_r25 : List Cond := [Cond.fieldLink RX2 167 "DictationBelt$State" "carbons" "[I", Cond.methodLink RL 188 yX3_carbon, Cond.instanceMethod yX3_carbon, Cond.selects RX3 yX3_carbon yX3_carbon, Cond.code yX3_carbon cX3_carbon 3 (some .int), Cond.methodLink RL 189 yX2_corrected, Cond.instanceMethod yX2_corrected, Cond.selects RX2 yX2_corrected yX2_corrected, Cond.code yX2_corrected cX2_corrected 1 (some .int), Cond.methodLink RX2 170 yX1_correctedCells, Cond.instanceMethod yX1_correctedCells, Cond.selects RX1 yX1_correctedCells yX1_correctedCells, Cond.code yX1_correctedCells cX1_correctedCells 3 (some .int), Cond.methodLink RL 192 yX3_corrected, Cond.instanceMethod yX3_corrected, Cond.selects RX3 yX3_corrected yX3_corrected, Cond.code yX3_corrected cX3_corrected 1 (some .int), Cond.methodLink RX3 106 yX3_correctedCells, Cond.instanceMethod yX3_correctedCells, Cond.selects RX3 yX3_correctedCells yX3_correctedCells, Cond.code yX3_correctedCells cX3_correctedCells 3 (some .int), Cond.methodLink RL 193 yX2_room, Cond.instanceMethod yX2_room, Cond.selects RX2 yX2_room yX2_room]
def wsL_law0_r26 : List Cond := [Cond.code yX2_room cX2_room 1 (some .int), Cond.methodLink RX2 173 yX1_writableCells, Cond.methodLink RL 196 yX3_room, Cond.instanceMethod yX3_room, Cond.selects RX3 yX3_room yX3_room, Cond.code yX3_room cX3_room 1 (some .int), Cond.methodLink RL 197 yX2_nextLoser, Cond.instanceMethod yX2_nextLoser, Cond.selects RX2 yX2_nextLoser yX2_nextLoser, Cond.code yX2_nextLoser cX2_nextLoser 1 (some .int), Cond.methodLink RX2 176 yX1_firstLoser, Cond.instanceMethod yX1_firstLoser, Cond.selects RX1 yX1_firstLoser yX1_firstLoser, Cond.code yX1_firstLoser cX1_firstLoser 4 (some .int), Cond.methodLink RL 200 yX3_nextLoser, Cond.instanceMethod yX3_nextLoser, Cond.selects RX3 yX3_nextLoser yX3_nextLoser, Cond.code yX3_nextLoser cX3_nextLoser 1 (some .int), Cond.methodLink RX3 109 yX3_loser, Cond.instanceMethod yX3_loser, Cond.selects RX3 yX3_loser yX3_loser, Cond.code yX3_loser cX3_loser 3 (some .int), Cond.methodLink RL 201 yL_lossOf, Cond.static yL_lossOf]
def wsL_law0_r27 : List Cond := [Cond.codeWith yL_lossOf cL_lossOf 5 (some .int) [(0, 10, 13, 28), (0, 10, 17, 22)], Cond.methodLink RL 72 yX2_lossOf, Cond.instanceMethod yX2_lossOf, Cond.selects RX2 yX2_lossOf yX2_lossOf, Cond.code yX2_lossOf cX2_lossOf 3 (some .int), Cond.methodLink RX2 179 yX2_requireForecast, Cond.static yX2_requireForecast, Cond.code yX2_requireForecast cX2_requireForecast 1 none, Cond.methodLink RX2 182 yX1_lossAfter, Cond.instanceMethod yX1_lossAfter, Cond.selects RX1 yX1_lossAfter yX1_lossAfter, Cond.code yX1_lossAfter cX1_lossAfter 7 (some .int), Cond.methodLink RL 203 yX3_lossOf, Cond.instanceMethod yX3_lossOf, Cond.selects RX3 yX3_lossOf yX3_lossOf, Cond.code yX3_lossOf cX3_lossOf 3 (some .int), Cond.methodLink RX3 112 yX3_loss, Cond.instanceMethod yX3_loss, Cond.selects RX3 yX3_loss yX3_loss, Cond.code yX3_loss cX3_loss 8 (some .int), Cond.methodLink RL 204 yL_goneAfter, Cond.static yL_goneAfter, Cond.codeWith yL_goneAfter cL_goneAfter 4 (some .int) [(0, 9, 12, 22)], Cond.methodLink RL 75 yX2_goneAfter]
def wsL_law0_r28 : List Cond := [Cond.instanceMethod yX2_goneAfter, Cond.selects RX2 yX2_goneAfter yX2_goneAfter, Cond.code yX2_goneAfter cX2_goneAfter 5 (some .int), Cond.methodLink RL 206 yX3_goneAfter, Cond.instanceMethod yX3_goneAfter, Cond.selects RX3 yX3_goneAfter yX3_goneAfter, Cond.code yX3_goneAfter cX3_goneAfter 5 (some .int), Cond.methodLink RL 207 yL_append, Cond.static yL_append, Cond.codeWith yL_append cL_append 4 (some .int) [(0, 9, 12, 22), (0, 9, 15, 13)], Cond.methodLink RL 78 yX2_append, Cond.instanceMethod yX2_append, Cond.selects RX2 yX2_append yX2_append, Cond.code yX2_append cX2_append 2 (some .int), Cond.fieldLink RX2 187 "DictationBelt$OrderText" "length" "I", Cond.methodLink RX2 192 yX0_add, Cond.instanceMethod yX0_add, Cond.selects RX0 yX0_add yX0_add, Cond.code yX0_add cX0_add 2 none, Cond.methodLink RL 209 yX3_append, Cond.instanceMethod yX3_append, Cond.selects RX3 yX3_append yX3_append, Cond.code yX3_append cX3_append 2 (some .int), Cond.fieldLink RX3 115 "DictationBeltModel" "length" "I"]
def wsL_law0_r29 : List Cond := [Cond.methodLink RL 210 yX2_clearText, Cond.instanceMethod yX2_clearText, Cond.selects RX2 yX2_clearText yX2_clearText, Cond.code yX2_clearText cX2_clearText 2 (some .int), Cond.methodLink RL 213 yX3_clearText, Cond.instanceMethod yX3_clearText, Cond.selects RX3 yX3_clearText yX3_clearText, Cond.code yX3_clearText cX3_clearText 2 (some .int), Cond.methodLink RL 214 yX2_firstError, Cond.instanceMethod yX2_firstError, Cond.selects RX2 yX2_firstError yX2_firstError, Cond.code yX2_firstError cX2_firstError 1 (some .int), Cond.methodLink RX2 195 yX0_errorIndex, Cond.instanceMethod yX0_errorIndex, Cond.selects RX0 yX0_errorIndex yX0_errorIndex, Cond.code yX0_errorIndex cX0_errorIndex 3 (some .int), Cond.methodLink RX0 27 yX0_stageAfter, Cond.static yX0_stageAfter, Cond.code yX0_stageAfter cX0_stageAfter 2 (some .int), Cond.methodLink RX0 31 yX0_stageAfterLetter, Cond.static yX0_stageAfterLetter, Cond.code yX0_stageAfterLetter cX0_stageAfterLetter 1 (some .int), Cond.methodLink RX0 35 yX0_isIn, Cond.static yX0_isIn]
def wsL_law0_r30 : List Cond := [Cond.code yX0_isIn cX0_isIn 3 (some .boolean), Cond.methodLink RX0 39 yX0_stageAfterFirstOfTimes, Cond.static yX0_stageAfterFirstOfTimes, Cond.code yX0_stageAfterFirstOfTimes cX0_stageAfterFirstOfTimes 1 (some .int), Cond.methodLink RL 217 yX3_firstError, Cond.instanceMethod yX3_firstError, Cond.selects RX3 yX3_firstError yX3_firstError, Cond.code yX3_firstError cX3_firstError 1 (some .int), Cond.fieldLink RX3 118 "DictationBeltModel" "at" "I", Cond.methodLink RX3 142 yX3_areOrders, Cond.instanceMethod yX3_areOrders, Cond.selects RX3 yX3_areOrders yX3_areOrders, Cond.code yX3_areOrders cX3_areOrders 1 (some .boolean), Cond.methodLink RX3 139 yX3_readsOrder, Cond.instanceMethod yX3_readsOrder, Cond.selects RX3 yX3_readsOrder yX3_readsOrder, Cond.code yX3_readsOrder cX3_readsOrder 1 (some .boolean), Cond.fieldLink RX3 124 "DictationBeltModel" "letter" "I", Cond.fieldLink RX3 133 "DictationBeltModel" "second" "I", Cond.fieldLink RX3 136 "DictationBeltModel" "first" "I", Cond.methodLink RX3 121 yX3_sign, Cond.instanceMethod yX3_sign, Cond.selects RX3 yX3_sign yX3_sign, Cond.code yX3_sign cX3_sign 1 (some .int)]
def wsL_law0_r31 : List Cond := [Cond.methodLink RX3 127 yX3_takes, Cond.instanceMethod yX3_takes, Cond.selects RX3 yX3_takes yX3_takes, Cond.code yX3_takes cX3_takes 3 (some .boolean), Cond.methodLink RX3 130 yX3_number, Cond.instanceMethod yX3_number, Cond.selects RX3 yX3_number yX3_number, Cond.code yX3_number cX3_number 4 (some .int), Cond.methodLink RL 218 yL_run, Cond.static yL_run, Cond.codeWith yL_run cL_run 3 (some .int) [(0, 8, 11, 22)], Cond.methodLink RL 81 yX2_run, Cond.instanceMethod yX2_run, Cond.selects RX2 yX2_run yX2_run, Cond.code yX2_run cX2_run 2 (some .int), Cond.methodLink RX2 198 yX0_isComplete, Cond.instanceMethod yX0_isComplete, Cond.selects RX0 yX0_isComplete yX0_isComplete, Cond.code yX0_isComplete cX0_isComplete 3 (some .boolean), Cond.methodLink RX2 203 yX2_obeyOrders, Cond.instanceMethod yX2_obeyOrders, Cond.selects RX2 yX2_obeyOrders yX2_obeyOrders, Cond.code yX2_obeyOrders cX2_obeyOrders 8 (some .int), Cond.methodLink RX2 260 Lib.Math.min.name]
def wsL_law0_r32 : List Cond := [Cond.static Lib.Math.min.name, Cond.code Lib.Math.min.name Lib.Math.min.code 2 (some .int), Cond.fieldLink RX2 265 "DictationBelt$OrderText" "codes" "[I", Cond.methodLink RX2 268 yX2_mayObey, Cond.instanceMethod yX2_mayObey, Cond.selects RX2 yX2_mayObey yX2_mayObey, Cond.code yX2_mayObey cX2_mayObey 4 (some .boolean), Cond.methodLink RX2 272 yX2_obey, Cond.instanceMethod yX2_obey, Cond.selects RX2 yX2_obey yX2_obey, Cond.code yX2_obey cX2_obey 4 none, Cond.methodLink RL 220 yX3_run, Cond.instanceMethod yX3_run, Cond.selects RX3 yX3_run yX3_run, Cond.code yX3_run cX3_run 2 (some .int), Cond.methodLink RX3 145 yX3_can, Cond.instanceMethod yX3_can, Cond.selects RX3 yX3_can yX3_can, Cond.code yX3_can cX3_can 1 (some .boolean), Cond.methodLink RX3 148 yX3_does, Cond.instanceMethod yX3_does, Cond.selects RX3 yX3_does yX3_does, Cond.code yX3_does cX3_does 2 none, Cond.methodLink RL 221 yL_undo]
def wsL_law0_r33 : List Cond := [Cond.static yL_undo, Cond.codeWith yL_undo cL_undo 3 (some .int) [(0, 8, 11, 13)], Cond.methodLink RL 84 yX2_undo, Cond.instanceMethod yX2_undo, Cond.selects RX2 yX2_undo yX2_undo, Cond.code yX2_undo cX2_undo 2 (some .int), Cond.methodLink RL 223 yX3_undo, Cond.instanceMethod yX3_undo, Cond.selects RX3 yX3_undo yX3_undo, Cond.code yX3_undo cX3_undo 1 (some .int), Cond.methodLink RL 224 yX2_savedStates, Cond.instanceMethod yX2_savedStates, Cond.selects RX2 yX2_savedStates yX2_savedStates, Cond.code yX2_savedStates cX2_savedStates 1 (some .int), Cond.methodLink RL 227 yX3_savedStates, Cond.instanceMethod yX3_savedStates, Cond.selects RX3 yX3_savedStates yX3_savedStates, Cond.code yX3_savedStates cX3_savedStates 1 (some .int), Cond.methodLink RL 228 yX2_digest, Cond.instanceMethod yX2_digest, Cond.selects RX2 yX2_digest yX2_digest, Cond.code yX2_digest cX2_digest 4 (some .long), Cond.constantLong RX2 216 (4444), Cond.methodLink RX2 218 yX2_recordings]
def wsL_law0_r34 : List Cond := [Cond.methodLink RX2 221 yX2_mixed, Cond.static yX2_mixed, Cond.code yX2_mixed cX2_mixed 4 (some .long), Cond.constantLong RX2 258 (31), Cond.methodLink RX2 225 yX2_running, Cond.methodLink RX2 228 yX2_head, Cond.methodLink RX2 230 yX2_free, Cond.methodLink RX2 233 yX2_spoken, Cond.methodLink RX2 235 yX2_gone, Cond.methodLink RX2 237 yX2_playing, Cond.methodLink RX2 240 yX2_place, Cond.methodLink RX2 242 yX2_corrected, Cond.methodLink RX2 245 yX2_room, Cond.methodLink RX2 248 yX2_nextLoser, Cond.methodLink RX2 251 yX2_withRecording, Cond.instanceMethod yX2_withRecording, Cond.selects RX2 yX2_withRecording yX2_withRecording, Cond.code yX2_withRecording cX2_withRecording 8 (some .long), Cond.fieldLink RX2 255 "DictationBelt$State" "order" "[I", Cond.methodLink RL 232 yX3_digest, Cond.instanceMethod yX3_digest, Cond.selects RX3 yX3_digest yX3_digest, Cond.code yX3_digest cX3_digest 5 (some .long), Cond.constantLong RX3 157 (4444)]
def wsL_law0_r35 : List Cond := [Cond.fieldLink RX3 153 "DictationBeltModel" "hash" "J", Cond.methodLink RX3 159 yX3_mix, Cond.instanceMethod yX3_mix, Cond.selects RX3 yX3_mix yX3_mix, Cond.code yX3_mix cX3_mix 3 none, Cond.constantLong RX3 151 (31)]
def wsL_law0 : List Cond := (wsL_law0_r1 ++ (wsL_law0_r2 ++ (wsL_law0_r3 ++ (wsL_law0_r4 ++ (wsL_law0_r5 ++ (wsL_law0_r6 ++ (wsL_law0_r7 ++ (wsL_law0_r8 ++ (wsL_law0_r9 ++ (wsL_law0_r10 ++ (wsL_law0_r11 ++ (wsL_law0_r12 ++ (wsL_law0_r13 ++ (wsL_law0_r14 ++ (wsL_law0_r15 ++ (wsL_law0_r16 ++ (wsL_law0_r17 ++ (wsL_law0_r18 ++ (wsL_law0_r19 ++ (wsL_law0_r20 ++ (wsL_law0_r21 ++ (wsL_law0_r22 ++ (wsL_law0_r23 ++ (wsL_law0_r24 ++ (wsL_law0_r25 ++ (wsL_law0_r26 ++ (wsL_law0_r27 ++ (wsL_law0_r28 ++ (wsL_law0_r29 ++ (wsL_law0_r30 ++ (wsL_law0_r31 ++ (wsL_law0_r32 ++ (wsL_law0_r33 ++ (wsL_law0_r34 ++ wsL_law0_r35)))))))))))))))))))))))))))))))))) ++ wsX20 ++ wsX30 ++ wsX10 ++ wsX00 ++ ([] : List Cond)
def wsL_law : List Cond := wsL_law0 ++ (vx_atS RX2 42 "java/lang/IllegalStateException" ["java/lang/RuntimeException", "java/lang/Exception"]).filter goodWord ++ (vx_atS RX2 153 "java/lang/IllegalArgumentException" ["java/lang/RuntimeException", "java/lang/Exception"]).filter goodWord ++ (vx_atS RX2 283 "java/lang/IndexOutOfBoundsException" ["java/lang/RuntimeException", "java/lang/Exception"]).filter goodWord
set_option maxRecDepth 20000 in
theorem wsL_law0_r1_in : ∀ w ∈ wsL_law0_r1, w ∈ lw_tbl := fun w h => (goodIn_p wsL_law0_r1 [59, 62] (by decide +kernel) (by decide +kernel) w h).1
set_option maxRecDepth 20000 in
theorem wsL_law0_r2_in : ∀ w ∈ wsL_law0_r2, w ∈ lw_tbl := fun w h => (goodIn_p wsL_law0_r2 [67, 131] (by decide +kernel) (by decide +kernel) w h).1
set_option maxRecDepth 20000 in
theorem wsL_law0_r3_in : ∀ w ∈ wsL_law0_r3, w ∈ lw_tbl := fun w h => (goodIn_p wsL_law0_r3 [718, 304, 308] (by decide +kernel) (by decide +kernel) w h).1
set_option maxRecDepth 20000 in
theorem wsL_law0_r4_in : ∀ w ∈ wsL_law0_r4, w ∈ lw_tbl := fun w h => (goodIn_p wsL_law0_r4 [169, 291, 209, 381, 385, 389] (by decide +kernel) (by decide +kernel) w h).1
set_option maxRecDepth 20000 in
theorem wsL_law0_r5_in : ∀ w ∈ wsL_law0_r5, w ∈ lw_tbl := fun w h => (goodIn_p wsL_law0_r5 [396, 400, 404, 407, 758, 762] (by decide +kernel) (by decide +kernel) w h).1
set_option maxRecDepth 20000 in
theorem wsL_law0_r6_in : ∀ w ∈ wsL_law0_r6, w ∈ lw_tbl := fun w h => (goodIn_p wsL_law0_r6 [766, 770, 774, 778, 782, 786] (by decide +kernel) (by decide +kernel) w h).1
set_option maxRecDepth 20000 in
theorem wsL_law0_r7_in : ∀ w ∈ wsL_law0_r7, w ∈ lw_tbl := fun w h => (goodIn_p wsL_law0_r7 [790, 754, 414, 794] (by decide +kernel) (by decide +kernel) w h).1
set_option maxRecDepth 20000 in
theorem wsL_law0_r8_in : ∀ w ∈ wsL_law0_r8, w ∈ lw_tbl := fun w h => (goodIn_p wsL_law0_r8 [424, 427, 447, 217, 221] (by decide +kernel) (by decide +kernel) w h).1
set_option maxRecDepth 20000 in
theorem wsL_law0_r9_in : ∀ w ∈ wsL_law0_r9, w ∈ lw_tbl := fun w h => (goodIn_p wsL_law0_r9 [453, 457, 234, 461, 465, 469] (by decide +kernel) (by decide +kernel) w h).1
set_option maxRecDepth 20000 in
theorem wsL_law0_r10_in : ∀ w ∈ wsL_law0_r10, w ∈ lw_tbl := fun w h => (goodIn_p wsL_law0_r10 [473, 798, 801, 804, 808, 812, 816] (by decide +kernel) (by decide +kernel) w h).1
set_option maxRecDepth 20000 in
theorem wsL_law0_r11_in : ∀ w ∈ wsL_law0_r11, w ∈ lw_tbl := fun w h => (goodIn_p wsL_law0_r11 [820, 824, 828, 481, 485] (by decide +kernel) (by decide +kernel) w h).1
set_option maxRecDepth 20000 in
theorem wsL_law0_r12_in : ∀ w ∈ wsL_law0_r12, w ∈ lw_tbl := fun w h => (goodIn_p wsL_law0_r12 [489, 295, 509, 832, 836] (by decide +kernel) (by decide +kernel) w h).1
set_option maxRecDepth 20000 in
theorem wsL_law0_r13_in : ∀ w ∈ wsL_law0_r13, w ∈ lw_tbl := fun w h => (goodIn_p wsL_law0_r13 [516, 521, 840, 528, 531] (by decide +kernel) (by decide +kernel) w h).1
set_option maxRecDepth 20000 in
theorem wsL_law0_r14_in : ∀ w ∈ wsL_law0_r14, w ∈ lw_tbl := fun w h => (goodIn_p wsL_law0_r14 [844, 847, 161, 851, 855, 165] (by decide +kernel) (by decide +kernel) w h).1
set_option maxRecDepth 20000 in
theorem wsL_law0_r15_in : ∀ w ∈ wsL_law0_r15, w ∈ lw_tbl := fun w h => (goodIn_p wsL_law0_r15 [859, 173, 863, 540] (by decide +kernel) (by decide +kernel) w h).1
set_option maxRecDepth 20000 in
theorem wsL_law0_r16_in : ∀ w ∈ wsL_law0_r16, w ∈ lw_tbl := fun w h => (goodIn_p wsL_law0_r16 [867, 547, 551, 556, 871] (by decide +kernel) (by decide +kernel) w h).1
set_option maxRecDepth 20000 in
theorem wsL_law0_r17_in : ∀ w ∈ wsL_law0_r17, w ∈ lw_tbl := fun w h => (goodIn_p wsL_law0_r17 [875, 879, 563, 883, 570] (by decide +kernel) (by decide +kernel) w h).1
set_option maxRecDepth 20000 in
theorem wsL_law0_r18_in : ∀ w ∈ wsL_law0_r18, w ∈ lw_tbl := fun w h => (goodIn_p wsL_law0_r18 [887, 577, 891, 584] (by decide +kernel) (by decide +kernel) w h).1
set_option maxRecDepth 20000 in
theorem wsL_law0_r19_in : ∀ w ∈ wsL_law0_r19, w ∈ lw_tbl := fun w h => (goodIn_p wsL_law0_r19 [895, 177, 899, 181, 903] (by decide +kernel) (by decide +kernel) w h).1
set_option maxRecDepth 20000 in
theorem wsL_law0_r20_in : ∀ w ∈ wsL_law0_r20, w ∈ lw_tbl := fun w h => (goodIn_p wsL_law0_r20 [185, 907, 189, 911, 591] (by decide +kernel) (by decide +kernel) w h).1
set_option maxRecDepth 20000 in
theorem wsL_law0_r21_in : ∀ w ∈ wsL_law0_r21, w ∈ lw_tbl := fun w h => (goodIn_p wsL_law0_r21 [595, 916, 920, 602, 606] (by decide +kernel) (by decide +kernel) w h).1
set_option maxRecDepth 20000 in
theorem wsL_law0_r22_in : ∀ w ∈ wsL_law0_r22, w ∈ lw_tbl := fun w h => (goodIn_p wsL_law0_r22 [611, 924, 928, 619, 624] (by decide +kernel) (by decide +kernel) w h).1
set_option maxRecDepth 20000 in
theorem wsL_law0_r23_in : ∀ w ∈ wsL_law0_r23, w ∈ lw_tbl := fun w h => (goodIn_p wsL_law0_r23 [627, 932, 936, 194, 940, 198] (by decide +kernel) (by decide +kernel) w h).1
set_option maxRecDepth 20000 in
theorem wsL_law0_r24_in : ∀ w ∈ wsL_law0_r24, w ∈ lw_tbl := fun w h => (goodIn_p wsL_law0_r24 [944, 634, 948, 642] (by decide +kernel) (by decide +kernel) w h).1
set_option maxRecDepth 20000 in
theorem wsL_law0_r25_in : ∀ w ∈ wsL_law0_r25, w ∈ lw_tbl := fun w h => (goodIn_p wsL_law0_r25 [952, 202, 206, 956, 960] (by decide +kernel) (by decide +kernel) w h).1
set_option maxRecDepth 20000 in
theorem wsL_law0_r26_in : ∀ w ∈ wsL_law0_r26, w ∈ lw_tbl := fun w h => (goodIn_p wsL_law0_r26 [213, 964, 226, 230, 968, 972] (by decide +kernel) (by decide +kernel) w h).1
set_option maxRecDepth 20000 in
theorem wsL_law0_r27_in : ∀ w ∈ wsL_law0_r27, w ∈ lw_tbl := fun w h => (goodIn_p wsL_law0_r27 [649, 652, 657, 976, 980] (by decide +kernel) (by decide +kernel) w h).1
set_option maxRecDepth 20000 in
theorem wsL_law0_r28_in : ∀ w ∈ wsL_law0_r28, w ∈ lw_tbl := fun w h => (goodIn_p wsL_law0_r28 [664, 984, 671, 677, 988] (by decide +kernel) (by decide +kernel) w h).1
set_option maxRecDepth 20000 in
theorem wsL_law0_r29_in : ∀ w ∈ wsL_law0_r29, w ∈ lw_tbl := fun w h => (goodIn_p wsL_law0_r29 [238, 992, 242, 246, 250, 253] (by decide +kernel) (by decide +kernel) w h).1
set_option maxRecDepth 20000 in
theorem wsL_law0_r30_in : ∀ w ∈ wsL_law0_r30, w ∈ lw_tbl := fun w h => (goodIn_p wsL_law0_r30 [256, 259, 996, 1000, 1004, 1008] (by decide +kernel) (by decide +kernel) w h).1
set_option maxRecDepth 20000 in
theorem wsL_law0_r31_in : ∀ w ∈ wsL_law0_r31, w ∈ lw_tbl := fun w h => (goodIn_p wsL_law0_r31 [1012, 1016, 685, 689, 694] (by decide +kernel) (by decide +kernel) w h).1
set_option maxRecDepth 20000 in
theorem wsL_law0_r32_in : ∀ w ∈ wsL_law0_r32, w ∈ lw_tbl := fun w h => (goodIn_p wsL_law0_r32 [697, 701, 705, 1020, 1024, 1028] (by decide +kernel) (by decide +kernel) w h).1
set_option maxRecDepth 20000 in
theorem wsL_law0_r33_in : ∀ w ∈ wsL_law0_r33, w ∈ lw_tbl := fun w h => (goodIn_p wsL_law0_r33 [712, 1032, 263, 1036, 267] (by decide +kernel) (by decide +kernel) w h).1
set_option maxRecDepth 20000 in
theorem wsL_law0_r34_in : ∀ w ∈ wsL_law0_r34, w ∈ lw_tbl := fun w h => (goodIn_p wsL_law0_r34 [272, 287, 1040] (by decide +kernel) (by decide +kernel) w h).1
set_option maxRecDepth 20000 in
theorem wsL_law0_r35_in : ∀ w ∈ wsL_law0_r35, w ∈ lw_tbl := fun w h => (goodIn_p wsL_law0_r35 [1045] (by decide +kernel) (by decide +kernel) w h).1
set_option maxRecDepth 20000 in
theorem wsX20_in : ∀ w ∈ wsX20, w ∈ lw_tbl := by decide +kernel
set_option maxRecDepth 20000 in
theorem wsX30_in : ∀ w ∈ wsX30, w ∈ lw_tbl := by decide +kernel
set_option maxRecDepth 20000 in
theorem wsX10_in : ∀ w ∈ wsX10, w ∈ lw_tbl := by decide +kernel
set_option maxRecDepth 20000 in
theorem wsX00_in : ∀ w ∈ wsX00, w ∈ lw_tbl := by decide +kernel
theorem wsL_law_in0 : ∀ w ∈ wsL_law0, w ∈ lw_tbl := List.forall_mem_append.mpr ⟨List.forall_mem_append.mpr ⟨List.forall_mem_append.mpr ⟨List.forall_mem_append.mpr ⟨List.forall_mem_append.mpr ⟨List.forall_mem_append.mpr ⟨wsL_law0_r1_in, List.forall_mem_append.mpr ⟨wsL_law0_r2_in, List.forall_mem_append.mpr ⟨wsL_law0_r3_in, List.forall_mem_append.mpr ⟨wsL_law0_r4_in, List.forall_mem_append.mpr ⟨wsL_law0_r5_in, List.forall_mem_append.mpr ⟨wsL_law0_r6_in, List.forall_mem_append.mpr ⟨wsL_law0_r7_in, List.forall_mem_append.mpr ⟨wsL_law0_r8_in, List.forall_mem_append.mpr ⟨wsL_law0_r9_in, List.forall_mem_append.mpr ⟨wsL_law0_r10_in, List.forall_mem_append.mpr ⟨wsL_law0_r11_in, List.forall_mem_append.mpr ⟨wsL_law0_r12_in, List.forall_mem_append.mpr ⟨wsL_law0_r13_in, List.forall_mem_append.mpr ⟨wsL_law0_r14_in, List.forall_mem_append.mpr ⟨wsL_law0_r15_in, List.forall_mem_append.mpr ⟨wsL_law0_r16_in, List.forall_mem_append.mpr ⟨wsL_law0_r17_in, List.forall_mem_append.mpr ⟨wsL_law0_r18_in, List.forall_mem_append.mpr ⟨wsL_law0_r19_in, List.forall_mem_append.mpr ⟨wsL_law0_r20_in, List.forall_mem_append.mpr ⟨wsL_law0_r21_in, List.forall_mem_append.mpr ⟨wsL_law0_r22_in, List.forall_mem_append.mpr ⟨wsL_law0_r23_in, List.forall_mem_append.mpr ⟨wsL_law0_r24_in, List.forall_mem_append.mpr ⟨wsL_law0_r25_in, List.forall_mem_append.mpr ⟨wsL_law0_r26_in, List.forall_mem_append.mpr ⟨wsL_law0_r27_in, List.forall_mem_append.mpr ⟨wsL_law0_r28_in, List.forall_mem_append.mpr ⟨wsL_law0_r29_in, List.forall_mem_append.mpr ⟨wsL_law0_r30_in, List.forall_mem_append.mpr ⟨wsL_law0_r31_in, List.forall_mem_append.mpr ⟨wsL_law0_r32_in, List.forall_mem_append.mpr ⟨wsL_law0_r33_in, List.forall_mem_append.mpr ⟨wsL_law0_r34_in, wsL_law0_r35_in⟩⟩⟩⟩⟩⟩⟩⟩⟩⟩⟩⟩⟩⟩⟩⟩⟩⟩⟩⟩⟩⟩⟩⟩⟩⟩⟩⟩⟩⟩⟩⟩⟩⟩, wsX20_in⟩, wsX30_in⟩, wsX10_in⟩, wsX00_in⟩, fun _ h => absurd h List.not_mem_nil⟩
theorem wsL_law_x0 : ∀ w ∈ (vx_atS RX2 42 "java/lang/IllegalStateException" ["java/lang/RuntimeException", "java/lang/Exception"]).filter goodWord, w ∈ lw_tbl := by decide +kernel
theorem wsL_law_x1 : ∀ w ∈ (vx_atS RX2 153 "java/lang/IllegalArgumentException" ["java/lang/RuntimeException", "java/lang/Exception"]).filter goodWord, w ∈ lw_tbl := by decide +kernel
theorem wsL_law_x2 : ∀ w ∈ (vx_atS RX2 283 "java/lang/IndexOutOfBoundsException" ["java/lang/RuntimeException", "java/lang/Exception"]).filter goodWord, w ∈ lw_tbl := by decide +kernel
theorem wsL_law_in : ∀ w ∈ wsL_law, w ∈ lw_tbl := fun w h => (List.mem_append.mp h).elim (fun h => (List.mem_append.mp h).elim (fun h => (List.mem_append.mp h).elim (fun h => wsL_law_in0 w h) (fun h => wsL_law_x0 w h)) (fun h => wsL_law_x1 w h)) (fun h => wsL_law_x2 w h)
theorem inlX0 : ∀ w ∈ wsX00, w ∈ wsL_law := fun _ h => List.mem_append_left _ (List.mem_append_left _ (List.mem_append_left _ (List.mem_append_left _ (List.mem_append_right _ h))))
theorem inX0 : ∀ w ∈ wsX00, w ∈ lw_tbl := fun w h => wsL_law_in w (inlX0 w h)
theorem inlX1 : ∀ w ∈ wsX10, w ∈ wsL_law := fun _ h => List.mem_append_left _ (List.mem_append_left _ (List.mem_append_left _ (List.mem_append_left _ (List.mem_append_left _ (List.mem_append_right _ h)))))
theorem inX1 : ∀ w ∈ wsX10, w ∈ lw_tbl := fun w h => wsL_law_in w (inlX1 w h)
theorem inlX2 : ∀ w ∈ wsX20, w ∈ wsL_law := fun _ h => List.mem_append_left _ (List.mem_append_left _ (List.mem_append_left _ (List.mem_append_left _ (List.mem_append_left _ (List.mem_append_left _ (List.mem_append_left _ (List.mem_append_right _ h)))))))
theorem inX2 : ∀ w ∈ wsX20, w ∈ lw_tbl := fun w h => wsL_law_in w (inlX2 w h)
theorem inlX3 : ∀ w ∈ wsX30, w ∈ wsL_law := fun _ h => List.mem_append_left _ (List.mem_append_left _ (List.mem_append_left _ (List.mem_append_left _ (List.mem_append_left _ (List.mem_append_left _ (List.mem_append_right _ h))))))
theorem inX3 : ∀ w ∈ wsX30, w ∈ lw_tbl := fun w h => wsL_law_in w (inlX3 w h)
theorem inJ9 : ∀ w ∈ wsJ90, w ∈ lw_tbl := by decide +kernel
theorem inJ0 : ∀ w ∈ wsJ00, w ∈ lw_tbl := by decide +kernel
theorem inJ10 : ∀ w ∈ wsJ100, w ∈ lw_tbl := by decide +kernel
abbrev vwCl : List vw_C := [(RX0, TX0, 2), (RX1, TX1, 14), (RX2, TX2, 5), (RX3, TX3, 10)]
end
section
/-! THE LAYER: one word list for all methods, one judgement X over a context, the rows of the kit lifted to it; words for the code that is read out of the bytecode -/
abbrev GW : List Cond := wsL_law
set_option maxRecDepth 100000 in
theorem gw_good : wsL_law.all goodWord = true := by decide +kernel
theorem gw_self : GoodIn GW GW := goodIn_sub (fun _ h => h) gw_good
theorem gw_app (ws : List Cond) (ps : List Nat) (hp : ws = ps.filterMap (fun i => GW[i]?)) (h : ws.all goodWord = true) : GoodIn GW (ws ++ GW) := goodIn_app (goodIn_r ws ps hp h) gw_self
/-- the classes of the arrays: of ints, of longs, of states -/
abbrev CS : Type := ClassId × ClassId × ClassId
abbrev TY (cs : CS) : List (ClassId × FieldType) := [(cs.1, .int), (cs.2.1, .long), (cs.2.2, .object RX1)]
def nestW : List Cond := [.methodLinkNest RX1 62 yX2_valueAt RX2, .methodLinkNest RX1 66 yX2_putAt RX2, .methodLinkNest RX0 23 yX2_valueAt RX2, .methodLinkNest RX0 19 yX2_putAt RX2]
/-- the tables' facts that each callee is handed -/
def KN (D : va_G) (cs : CS) (U : State) : Prop := va_K D vwCl (TY cs) U ∧ ∀ w ∈ nestW, va_Nw w U
theorem nest_shape {w : Cond} (h : w ∈ nestW) : ∃ (a : String) (i : Nat) (x : MethodName) (b : String), w = .methodLinkNest a i x b := by
  simp only [nestW, List.mem_cons, List.not_mem_nil, or_false] at h
  rcases h with h | h | h | h <;> exact ⟨_, _, _, _, h⟩
theorem KN.warm {D : va_G} {cs : CS} {s U : State} (hW : s.WarmedH U.vm) (h : KN D cs s) : KN D cs U := by
  refine ⟨va_K.moved hW.alike h.1, fun w hw => ?_⟩
  obtain ⟨a, i, x, b, rfl⟩ := nest_shape hw
  exact va_Nw.warmM hW (h.2 _ hw)
theorem KN.same {D : va_G} {cs : CS} {s U : State} (hv : s.vm = U.vm) (h : KN D cs s) : KN D cs U := by
  refine ⟨va_K.moved (by rw [hv]; exact Vm.Alike.refl U.vm) h.1, fun w hw => ?_⟩
  obtain ⟨a, i, x, b, rfl⟩ := nest_shape hw
  exact va_Nw.same rfl hv (h.2 _ hw)
/-- what a walk stands in: the program, launch, .. , the end to reach, the cells that may be written, the classes -/
abbrev Ctx : Type := Program × Launch × Env × Room × State × MethodId × Array Value × List Frame × Method × Code × (State → Prop) × (Nat → Prop) × va_G × CS
abbrev Ctx.l (Γ : Ctx) : Launch := Γ.2.1
abbrev Ctx.D (Γ : Ctx) : va_G := Γ.2.2.2.2.2.2.2.2.2.2.2.2.1
abbrev Ctx.cs (Γ : Ctx) : CS := Γ.2.2.2.2.2.2.2.2.2.2.2.2.2
/-- the frame at pc, with the locals lv, the stack st, in the world ws, reaches its end; k cells of n slots were made so far -/
def X (Γ : Ctx) (nL k n pc : Nat) (lv : List (Nat × Value)) (st : List Value) (ws : va_W) : Prop := match Γ with
  | (p, l, e, R, s, m, args, below, meth, c, Q, A, D, _) => ∀ (H : Heap) (locs : List Loc) (ls : Array Slot), va_P D vwCl ws H → va_D A ws → va_S A s.heap H locs → lv_has ls nL lv → W p l e R s m args below meth c H locs k n Q (F0 m pc ls st)
/-- the method's own facts: its code, locals, class, room -/
def CX (Γ : Ctx) (cc : ByteArray) (nL : Nat) (own : String) (R0 : Room) : Prop := match Γ with
  | (p, _, _, R, s, m, args, _, meth, c, _, A, D, cs) => CallFix p m c cc nL s args GW own ∧ KN D cs s ∧ (∀ q, s.heap.size ≤ q → A q) ∧ meth.locks = false ∧ R = R0
/-! words of the code read out -/
def nm {α β : Type} (k : α → β) (x : α) : β := k x
def bd {α β : Type} (o : Option α) (k : α → Option β) : Option β := match o with
  | none => none
  | some a => k a
def bd2 {α γ β : Type} (o : Option (α × γ)) (k : α → γ → Option β) : Option β := match o with
  | none => none
  | some q => k q.1 q.2
def gd {β : Type} (i : Int32) (n : Nat) (a : Option β) : Option β := if i < 0 ∨ n ≤ i.toNatClampNeg then none else a
def zb {β : Type} (r : Int32) (a : Option β) : Option β := if r = 0 ∨ r = 1 then a else none
def nz {β : Type} (r : Int32) (a : Option β) : Option β := if r = 0 then none else a
theorem nm_elim {α β : Type} {k : α → Option β} {x : α} {r : β} (h : nm k x = some r) : ∃ y, y = x ∧ k y = some r := ⟨x, rfl, h⟩
theorem bd_elim {α β : Type} {o : Option α} {k : α → Option β} {r : β} (h : bd o k = some r) : ∃ a, o = some a ∧ k a = some r := by
  cases o with
  | none => cases h
  | some a => exact ⟨a, rfl, h⟩
theorem bd2_elim {α γ β : Type} {o : Option (α × γ)} {k : α → γ → Option β} {r : β} (h : bd2 o k = some r) : ∃ a b, o = some (a, b) ∧ k a b = some r := by
  cases o with
  | none => cases h
  | some q => exact ⟨q.1, q.2, rfl, h⟩
theorem gd_elim {β : Type} {i : Int32} {n : Nat} {a : Option β} {r : β} (h : gd i n a = some r) : vp_in i n ∧ a = some r := by
  unfold gd at h
  split at h
  · cases h
  · exact ⟨by assumption, h⟩
theorem zb_elim {β : Type} {i : Int32} {a : Option β} {r : β} (h : zb i a = some r) : (i = 0 ∨ i = 1) ∧ a = some r := by
  unfold zb at h
  split at h
  · exact ⟨by assumption, h⟩
  · cases h
theorem nz_elim {β : Type} {i : Int32} {a : Option β} {r : β} (h : nz i a = some r) : ¬ i = 0 ∧ a = some r := by
  unfold nz at h
  split at h
  · cases h
  · exact ⟨by assumption, h⟩
theorem ite_t {β : Type} {c : Prop} [Decidable c] {a b : Option β} {r : β} (hc : c) (h : (if c then a else b) = some r) : a = some r := by rwa [if_pos hc] at h
theorem ite_f {β : Type} {c : Prop} [Decidable c] {a b : Option β} {r : β} (hc : ¬ c) (h : (if c then a else b) = some r) : b = some r := by rwa [if_neg hc] at h
theorem some2 {α γ : Type} {a a' : α} {b b' : γ} (h : some (a, b) = some (a', b')) : a = a' ∧ b = b' := by cases h; exact ⟨rfl, rfl⟩
theorem zb_nar {r : Int32} (h : r = 0 ∨ r = 1) : narrow .boolean (.int r) = .int r := by rcases h with rfl | rfl <;> rfl
def up2 {α : Type} (f : Nat → Nat → α) (j : Nat) (g : Nat → α) : Nat → Nat → α := fun i => if i = j then g else f i
/-- valueAt and putAt -/
def vAt (N : Nat) (f : Nat → Int32) (i : Int32) : Int32 := if i < 0 then -1 else if nI N ≤ i then -1 else f i.toNatClampNeg
def pAt (N : Nat) (f : Nat → Int32) (i v : Int32) : Nat → Int32 := if i < 0 then f else if nI N ≤ i then f else upd f i.toNatClampNeg v
end
section
section ROWS2
variable {Γ : Ctx} {cc : ByteArray} {nL k n pc pc' : Nat} {own : String} {R0 : Room} {lv lv' : List (Nat × Value)} {st : List Value} {ws : va_W}
theorem x_iconst (B : CX Γ cc nL own R0) {i : Int} (v : Int32) (d : decode cc pc = .ok (.iconst i, 1)) (hv : Int32.ofInt i = v) (hp : pc + 1 = pc') (kk : X Γ nL k n pc' lv (.int v :: st) ws) : X Γ nL k n pc lv st ws := by
  obtain ⟨p, l, e, R, s, m, args, below, meth, c, Q, A, D, cs⟩ := Γ
  subst hp
  intro H locs ls hP hD hS hl
  exact lv_iconst B.1.1 B.1.2.1 d hv (kk H locs ls hP hD hS hl)
theorem x_bipush (B : CX Γ cc nL own R0) {i : Int} (v : Int32) (d : decode cc pc = .ok (.bipush i, 2)) (hv : (Int8.ofInt i).toInt32 = v) (hp : pc + 2 = pc') (kk : X Γ nL k n pc' lv (.int v :: st) ws) : X Γ nL k n pc lv st ws := by
  obtain ⟨p, l, e, R, s, m, args, below, meth, c, Q, A, D, cs⟩ := Γ
  subst hp
  intro H locs ls hP hD hS hl
  exact lv_bipush B.1.1 B.1.2.1 d hv (kk H locs ls hP hD hS hl)
theorem x_sipush (B : CX Γ cc nL own R0) {i : Int} (v : Int32) (d : decode cc pc = .ok (.sipush i, 3)) (hv : (Int16.ofInt i).toInt32 = v) (hp : pc + 3 = pc') (kk : X Γ nL k n pc' lv (.int v :: st) ws) : X Γ nL k n pc lv st ws := by
  obtain ⟨p, l, e, R, s, m, args, below, meth, c, Q, A, D, cs⟩ := Γ
  subst hp
  intro H locs ls hP hD hS hl
  exact lv_sipush B.1.1 B.1.2.1 d hv (kk H locs ls hP hD hS hl)
theorem x_lconst (B : CX Γ cc nL own R0) {i : Fin 2} (v : Int64) (d : decode cc pc = .ok (.lconst i, 1)) (hv : Int64.ofNat (i : Nat) = v) (hp : pc + 1 = pc') (kk : X Γ nL k n pc' lv (.long v :: st) ws) : X Γ nL k n pc lv st ws := by
  obtain ⟨p, l, e, R, s, m, args, below, meth, c, Q, A, D, cs⟩ := Γ
  subst hp
  intro H locs ls hP hD hS hl
  exact lv_lconst B.1.1 B.1.2.1 d hv (kk H locs ls hP hD hS hl)
theorem x_ldc2 (B : CX Γ cc nL own R0) {index : Nat} (v : Int64) (hw : Cond.constantLong own index v ∈ GW) (d : decode cc pc = .ok (.ldc2_w index, 3)) (hp : pc + 3 = pc') (kk : X Γ nL k n pc' lv (.long v :: st) ws) : X Γ nL k n pc lv st ws := by
  obtain ⟨p, l, e, R, s, m, args, below, meth, c, Q, A, D, cs⟩ := Γ
  subst hp
  intro H locs ls hP hD hS hl
  exact lv_ldc2 B.1.1 B.1.2.1 B.1.2.2.2.1 (B.1.2.2.2.2 _ hw) d (kk H locs ls hP hD hS hl)
theorem x_ldc2d (B : CX Γ cc nL own R0) {index : Nat} (v : UInt64) (hw : Cond.constantDouble own index v ∈ GW) (d : decode cc pc = .ok (.ldc2_w index, 3)) (hp : pc + 3 = pc') (kk : X Γ nL k n pc' lv (.double v :: st) ws) : X Γ nL k n pc lv st ws := by
  obtain ⟨p, l, e, R, s, m, args, below, meth, c, Q, A, D, cs⟩ := Γ
  subst hp
  intro H locs ls hP hD hS hl
  exact lv_ldc2d B.1.1 B.1.2.1 B.1.2.2.2.1 (B.1.2.2.2.2 _ hw) d (kk H locs ls hP hD hS hl)
theorem x_iload_n (B : CX Γ cc nL own R0) {f : Fin 4} {i : Nat} {x : Int32} (j : Nat) (d : decode cc pc = .ok (.iload_n f, 1)) (hi : (f : Nat) = i) (hj : lv[j]? = some (i, .int x)) (hp : pc + 1 = pc') (kk : X Γ nL k n pc' lv (.int x :: st) ws) : X Γ nL k n pc lv st ws := by
  obtain ⟨p, l, e, R, s, m, args, below, meth, c, Q, A, D, cs⟩ := Γ
  subst hp
  intro H locs ls hP hD hS hl
  exact lv_iload_n B.1.1 B.1.2.1 d hi (lv_at hl j hj) (kk H locs ls hP hD hS hl)
theorem x_iload (B : CX Γ cc nL own R0) {i : Nat} {x : Int32} (j : Nat) (d : decode cc pc = .ok (.iload i, 2)) (hj : lv[j]? = some (i, .int x)) (hp : pc + 2 = pc') (kk : X Γ nL k n pc' lv (.int x :: st) ws) : X Γ nL k n pc lv st ws := by
  obtain ⟨p, l, e, R, s, m, args, below, meth, c, Q, A, D, cs⟩ := Γ
  subst hp
  intro H locs ls hP hD hS hl
  exact lv_iload B.1.1 B.1.2.1 d (lv_at hl j hj) (kk H locs ls hP hD hS hl)
theorem x_lload_n (B : CX Γ cc nL own R0) {f : Fin 4} {i : Nat} {x : Int64} (j : Nat) (d : decode cc pc = .ok (.lload_n f, 1)) (hi : (f : Nat) = i) (hj : lv[j]? = some (i, .long x)) (hp : pc + 1 = pc') (kk : X Γ nL k n pc' lv (.long x :: st) ws) : X Γ nL k n pc lv st ws := by
  obtain ⟨p, l, e, R, s, m, args, below, meth, c, Q, A, D, cs⟩ := Γ
  subst hp
  intro H locs ls hP hD hS hl
  exact lv_lload_n B.1.1 B.1.2.1 d hi (lv_at hl j hj) (kk H locs ls hP hD hS hl)
theorem x_lload (B : CX Γ cc nL own R0) {i : Nat} {x : Int64} (j : Nat) (d : decode cc pc = .ok (.lload i, 2)) (hj : lv[j]? = some (i, .long x)) (hp : pc + 2 = pc') (kk : X Γ nL k n pc' lv (.long x :: st) ws) : X Γ nL k n pc lv st ws := by
  obtain ⟨p, l, e, R, s, m, args, below, meth, c, Q, A, D, cs⟩ := Γ
  subst hp
  intro H locs ls hP hD hS hl
  exact lv_lload B.1.1 B.1.2.1 d (lv_at hl j hj) (kk H locs ls hP hD hS hl)
theorem x_aload_n (B : CX Γ cc nL own R0) {f : Fin 4} {i : Nat} {x : Nat} (j : Nat) (d : decode cc pc = .ok (.aload_n f, 1)) (hi : (f : Nat) = i) (hj : lv[j]? = some (i, .ref x)) (hp : pc + 1 = pc') (kk : X Γ nL k n pc' lv (.ref x :: st) ws) : X Γ nL k n pc lv st ws := by
  obtain ⟨p, l, e, R, s, m, args, below, meth, c, Q, A, D, cs⟩ := Γ
  subst hp
  intro H locs ls hP hD hS hl
  exact lv_aload_n B.1.1 B.1.2.1 d hi (lv_at hl j hj) (kk H locs ls hP hD hS hl)
theorem x_aload (B : CX Γ cc nL own R0) {i : Nat} {x : Nat} (j : Nat) (d : decode cc pc = .ok (.aload i, 2)) (hj : lv[j]? = some (i, .ref x)) (hp : pc + 2 = pc') (kk : X Γ nL k n pc' lv (.ref x :: st) ws) : X Γ nL k n pc lv st ws := by
  obtain ⟨p, l, e, R, s, m, args, below, meth, c, Q, A, D, cs⟩ := Γ
  subst hp
  intro H locs ls hP hD hS hl
  exact lv_aload B.1.1 B.1.2.1 d (lv_at hl j hj) (kk H locs ls hP hD hS hl)
theorem x_istore_n (B : CX Γ cc nL own R0) {f : Fin 4} {i : Nat} {x : Int32} (is : List Nat) (lv' : List (Nat × Value)) (d : decode cc pc = .ok (.istore_n f, 1)) (hi : (f : Nat) = i) (hn : i < nL) (hk : lv_pick ((i, Value.int x) :: lv.filter (fun q => !(q.1 == i) && !(q.1 + 1 == i && q.2.category == 2))) is = lv') (hp : pc + 1 = pc') (kk : X Γ nL k n pc' lv' st ws) : X Γ nL k n pc lv (Value.int x :: st) ws := by
  obtain ⟨p, l, e, R, s, m, args, below, meth, c, Q, A, D, cs⟩ := Γ
  subst hp
  intro H locs ls hP hD hS hl
  exact lv_istore_n B.1.1 B.1.2.1 d hi hl hn rfl (fun ls' hl' => kk H locs ls' hP hD hS (lv_sub hl' is hk))
theorem x_istore (B : CX Γ cc nL own R0) {i : Nat} {x : Int32} (is : List Nat) (lv' : List (Nat × Value)) (d : decode cc pc = .ok (.istore i, 2)) (hn : i < nL) (hk : lv_pick ((i, Value.int x) :: lv.filter (fun q => !(q.1 == i) && !(q.1 + 1 == i && q.2.category == 2))) is = lv') (hp : pc + 2 = pc') (kk : X Γ nL k n pc' lv' st ws) : X Γ nL k n pc lv (Value.int x :: st) ws := by
  obtain ⟨p, l, e, R, s, m, args, below, meth, c, Q, A, D, cs⟩ := Γ
  subst hp
  intro H locs ls hP hD hS hl
  exact lv_istore B.1.1 B.1.2.1 d hl hn rfl (fun ls' hl' => kk H locs ls' hP hD hS (lv_sub hl' is hk))
theorem x_lstore_n (B : CX Γ cc nL own R0) {f : Fin 4} {i : Nat} {x : Int64} (is : List Nat) (lv' : List (Nat × Value)) (d : decode cc pc = .ok (.lstore_n f, 1)) (hi : (f : Nat) = i) (hn : i + 1 < nL) (hk : lv_pick ((i, Value.long x) :: lv.filter (fun q => !(q.1 == i) && (!(q.1 == i + 1) && !(q.1 + 1 == i && q.2.category == 2)))) is = lv') (hp : pc + 1 = pc') (kk : X Γ nL k n pc' lv' st ws) : X Γ nL k n pc lv (Value.long x :: st) ws := by
  obtain ⟨p, l, e, R, s, m, args, below, meth, c, Q, A, D, cs⟩ := Γ
  subst hp
  intro H locs ls hP hD hS hl
  exact lv_lstore_n B.1.1 B.1.2.1 d hi hl hn rfl (fun ls' hl' => kk H locs ls' hP hD hS (lv_sub hl' is hk))
theorem x_lstore (B : CX Γ cc nL own R0) {i : Nat} {x : Int64} (is : List Nat) (lv' : List (Nat × Value)) (d : decode cc pc = .ok (.lstore i, 2)) (hn : i + 1 < nL) (hk : lv_pick ((i, Value.long x) :: lv.filter (fun q => !(q.1 == i) && (!(q.1 == i + 1) && !(q.1 + 1 == i && q.2.category == 2)))) is = lv') (hp : pc + 2 = pc') (kk : X Γ nL k n pc' lv' st ws) : X Γ nL k n pc lv (Value.long x :: st) ws := by
  obtain ⟨p, l, e, R, s, m, args, below, meth, c, Q, A, D, cs⟩ := Γ
  subst hp
  intro H locs ls hP hD hS hl
  exact lv_lstore B.1.1 B.1.2.1 d hl hn rfl (fun ls' hl' => kk H locs ls' hP hD hS (lv_sub hl' is hk))
theorem x_astore_n (B : CX Γ cc nL own R0) {f : Fin 4} {i : Nat} {x : Nat} (is : List Nat) (lv' : List (Nat × Value)) (d : decode cc pc = .ok (.astore_n f, 1)) (hi : (f : Nat) = i) (hn : i < nL) (hk : lv_pick ((i, Value.ref x) :: lv.filter (fun q => !(q.1 == i) && !(q.1 + 1 == i && q.2.category == 2))) is = lv') (hp : pc + 1 = pc') (kk : X Γ nL k n pc' lv' st ws) : X Γ nL k n pc lv (Value.ref x :: st) ws := by
  obtain ⟨p, l, e, R, s, m, args, below, meth, c, Q, A, D, cs⟩ := Γ
  subst hp
  intro H locs ls hP hD hS hl
  exact lv_astore_n B.1.1 B.1.2.1 d hi hl hn rfl (fun ls' hl' => kk H locs ls' hP hD hS (lv_sub hl' is hk))
theorem x_astore (B : CX Γ cc nL own R0) {i : Nat} {x : Nat} (is : List Nat) (lv' : List (Nat × Value)) (d : decode cc pc = .ok (.astore i, 2)) (hn : i < nL) (hk : lv_pick ((i, Value.ref x) :: lv.filter (fun q => !(q.1 == i) && !(q.1 + 1 == i && q.2.category == 2))) is = lv') (hp : pc + 2 = pc') (kk : X Γ nL k n pc' lv' st ws) : X Γ nL k n pc lv (Value.ref x :: st) ws := by
  obtain ⟨p, l, e, R, s, m, args, below, meth, c, Q, A, D, cs⟩ := Γ
  subst hp
  intro H locs ls hP hD hS hl
  exact lv_astore B.1.1 B.1.2.1 d hl hn rfl (fun ls' hl' => kk H locs ls' hP hD hS (lv_sub hl' is hk))
theorem x_iinc (B : CX Γ cc nL own R0) {i : Nat} {z : Int} {x : Int32} (v : Int32) (j : Nat) (is : List Nat) (lv' : List (Nat × Value)) (d : decode cc pc = .ok (.iinc i z, 3)) (hj : lv[j]? = some (i, .int x)) (hv : x + Int32.ofInt z = v) (hn : i < nL) (hk : lv_pick ((i, Value.int v) :: lv.filter (fun q => !(q.1 == i) && !(q.1 + 1 == i && q.2.category == 2))) is = lv') (hp : pc + 3 = pc') (kk : X Γ nL k n pc' lv' st ws) : X Γ nL k n pc lv st ws := by
  obtain ⟨p, l, e, R, s, m, args, below, meth, c, Q, A, D, cs⟩ := Γ
  subst hp
  intro H locs ls hP hD hS hl
  exact lv_iinc B.1.1 B.1.2.1 d hl hj hv hn rfl (fun ls' hl' => kk H locs ls' hP hD hS (lv_sub hl' is hk))
theorem x_iadd (B : CX Γ cc nL own R0) {x y : Int32} (d : decode cc pc = .ok (.iadd, 1)) (hp : pc + 1 = pc') (kk : X Γ nL k n pc' lv (.int (x + y) :: st) ws) : X Γ nL k n pc lv (.int y :: .int x :: st) ws := by
  obtain ⟨p, l, e, R, s, m, args, below, meth, c, Q, A, D, cs⟩ := Γ
  subst hp
  intro H locs ls hP hD hS hl
  exact lv_iadd B.1.1 B.1.2.1 d (kk H locs ls hP hD hS hl)
theorem x_isub (B : CX Γ cc nL own R0) {x y : Int32} (d : decode cc pc = .ok (.isub, 1)) (hp : pc + 1 = pc') (kk : X Γ nL k n pc' lv (.int (x - y) :: st) ws) : X Γ nL k n pc lv (.int y :: .int x :: st) ws := by
  obtain ⟨p, l, e, R, s, m, args, below, meth, c, Q, A, D, cs⟩ := Γ
  subst hp
  intro H locs ls hP hD hS hl
  exact lv_isub B.1.1 B.1.2.1 d (kk H locs ls hP hD hS hl)
theorem x_imul (B : CX Γ cc nL own R0) {x y : Int32} (d : decode cc pc = .ok (.imul, 1)) (hp : pc + 1 = pc') (kk : X Γ nL k n pc' lv (.int (x * y) :: st) ws) : X Γ nL k n pc lv (.int y :: .int x :: st) ws := by
  obtain ⟨p, l, e, R, s, m, args, below, meth, c, Q, A, D, cs⟩ := Γ
  subst hp
  intro H locs ls hP hD hS hl
  exact lv_imul B.1.1 B.1.2.1 d (kk H locs ls hP hD hS hl)
theorem x_iand (B : CX Γ cc nL own R0) {x y : Int32} (d : decode cc pc = .ok (.iand, 1)) (hp : pc + 1 = pc') (kk : X Γ nL k n pc' lv (.int (x &&& y) :: st) ws) : X Γ nL k n pc lv (.int y :: .int x :: st) ws := by
  obtain ⟨p, l, e, R, s, m, args, below, meth, c, Q, A, D, cs⟩ := Γ
  subst hp
  intro H locs ls hP hD hS hl
  exact lv_iand B.1.1 B.1.2.1 d (kk H locs ls hP hD hS hl)
theorem x_ladd (B : CX Γ cc nL own R0) {x y : Int64} (d : decode cc pc = .ok (.ladd, 1)) (hp : pc + 1 = pc') (kk : X Γ nL k n pc' lv (.long (x + y) :: st) ws) : X Γ nL k n pc lv (.long y :: .long x :: st) ws := by
  obtain ⟨p, l, e, R, s, m, args, below, meth, c, Q, A, D, cs⟩ := Γ
  subst hp
  intro H locs ls hP hD hS hl
  exact lv_ladd B.1.1 B.1.2.1 d (kk H locs ls hP hD hS hl)
theorem x_lmul (B : CX Γ cc nL own R0) {x y : Int64} (d : decode cc pc = .ok (.lmul, 1)) (hp : pc + 1 = pc') (kk : X Γ nL k n pc' lv (.long (x * y) :: st) ws) : X Γ nL k n pc lv (.long y :: .long x :: st) ws := by
  obtain ⟨p, l, e, R, s, m, args, below, meth, c, Q, A, D, cs⟩ := Γ
  subst hp
  intro H locs ls hP hD hS hl
  exact lv_lmul B.1.1 B.1.2.1 d (kk H locs ls hP hD hS hl)
theorem x_lsub (B : CX Γ cc nL own R0) {x y : Int64} (d : decode cc pc = .ok (.lsub, 1)) (hp : pc + 1 = pc') (kk : X Γ nL k n pc' lv (.long (x - y) :: st) ws) : X Γ nL k n pc lv (.long y :: .long x :: st) ws := by
  obtain ⟨p, l, e, R, s, m, args, below, meth, c, Q, A, D, cs⟩ := Γ
  subst hp
  intro H locs ls hP hD hS hl
  exact lv_lsub B.1.1 B.1.2.1 d (kk H locs ls hP hD hS hl)
theorem x_irem (B : CX Γ cc nL own R0) {x y : Int32} (d : decode cc pc = .ok (.irem, 1)) (hy : ¬ y = 0) (hp : pc + 1 = pc') (kk : X Γ nL k n pc' lv (.int (x - x / y * y) :: st) ws) : X Γ nL k n pc lv (.int y :: .int x :: st) ws := by
  obtain ⟨p, l, e, R, s, m, args, below, meth, c, Q, A, D, cs⟩ := Γ
  subst hp
  intro H locs ls hP hD hS hl
  exact lv_irem B.1.1 B.1.2.1 d hy (kk H locs ls hP hD hS hl)
theorem x_i2l (B : CX Γ cc nL own R0) {x : Int32} (d : decode cc pc = .ok (.i2l, 1)) (hp : pc + 1 = pc') (kk : X Γ nL k n pc' lv (.long x.toInt64 :: st) ws) : X Γ nL k n pc lv (.int x :: st) ws := by
  obtain ⟨p, l, e, R, s, m, args, below, meth, c, Q, A, D, cs⟩ := Γ
  subst hp
  intro H locs ls hP hD hS hl
  exact lv_i2l B.1.1 B.1.2.1 d rfl (kk H locs ls hP hD hS hl)
theorem x_i2d (B : CX Γ cc nL own R0) {x : Int32} (d : decode cc pc = .ok (.i2d, 1)) (hp : pc + 1 = pc') (kk : X Γ nL k n pc' lv (.double (FP.i2d x) :: st) ws) : X Γ nL k n pc lv (.int x :: st) ws := by
  obtain ⟨p, l, e, R, s, m, args, below, meth, c, Q, A, D, cs⟩ := Γ
  subst hp
  intro H locs ls hP hD hS hl
  exact lv_i2d B.1.1 B.1.2.1 d (kk H locs ls hP hD hS hl)
theorem x_ddiv (B : CX Γ cc nL own R0) {x y : UInt64} (d : decode cc pc = .ok (.ddiv, 1)) (hy : vf_n64 (FP.ddiv x y)) (hp : pc + 1 = pc') (kk : X Γ nL k n pc' lv (.double (FP.ddiv x y) :: st) ws) : X Γ nL k n pc lv (.double y :: .double x :: st) ws := by
  obtain ⟨p, l, e, R, s, m, args, below, meth, c, Q, A, D, cs⟩ := Γ
  subst hp
  intro H locs ls hP hD hS hl
  exact lv_ddiv B.1.1 B.1.2.1 d hy (kk H locs ls hP hD hS hl)
theorem x_pop (B : CX Γ cc nL own R0) {v : Value} (d : decode cc pc = .ok (.pop, 1)) (hv : v.category = 1) (hp : pc + 1 = pc') (kk : X Γ nL k n pc' lv st ws) : X Γ nL k n pc lv (v :: st) ws := by
  obtain ⟨p, l, e, R, s, m, args, below, meth, c, Q, A, D, cs⟩ := Γ
  subst hp
  intro H locs ls hP hD hS hl
  exact lv_pop B.1.1 B.1.2.1 d hv (kk H locs ls hP hD hS hl)
theorem x_dup (B : CX Γ cc nL own R0) {v : Value} (d : decode cc pc = .ok (.dup, 1)) (hv : v.category = 1) (hp : pc + 1 = pc') (kk : X Γ nL k n pc' lv (v :: v :: st) ws) : X Γ nL k n pc lv (v :: st) ws := by
  obtain ⟨p, l, e, R, s, m, args, below, meth, c, Q, A, D, cs⟩ := Γ
  subst hp
  intro H locs ls hP hD hS hl
  exact lv_dup B.1.1 B.1.2.1 d hv (kk H locs ls hP hD hS hl)
theorem x_dup_x1 (B : CX Γ cc nL own R0) {v w : Value} (d : decode cc pc = .ok (.dup_x1, 1)) (hv : v.category = 1) (hw : w.category = 1) (hp : pc + 1 = pc') (kk : X Γ nL k n pc' lv (v :: w :: v :: st) ws) : X Γ nL k n pc lv (v :: w :: st) ws := by
  obtain ⟨p, l, e, R, s, m, args, below, meth, c, Q, A, D, cs⟩ := Γ
  subst hp
  intro H locs ls hP hD hS hl
  exact lv_dup_x1 B.1.1 B.1.2.1 d hv hw (kk H locs ls hP hD hS hl)
theorem x_dup2 (B : CX Γ cc nL own R0) {v w : Value} (d : decode cc pc = .ok (.dup2, 1)) (hv : v.category = 1) (hw : w.category = 1) (hp : pc + 1 = pc') (kk : X Γ nL k n pc' lv (v :: w :: v :: w :: st) ws) : X Γ nL k n pc lv (v :: w :: st) ws := by
  obtain ⟨p, l, e, R, s, m, args, below, meth, c, Q, A, D, cs⟩ := Γ
  subst hp
  intro H locs ls hP hD hS hl
  exact lv_dup2_11 B.1.1 B.1.2.1 d hv hw (kk H locs ls hP hD hS hl)
theorem x_goto (B : CX Γ cc nL own R0) {off : Int} (d : decode cc pc = .ok (.goto off, 3)) (hp : (pc : Int) + off = (pc' : Int)) (kk : X Γ nL k n pc' lv st ws) : X Γ nL k n pc lv st ws := by
  obtain ⟨p, l, e, R, s, m, args, below, meth, c, Q, A, D, cs⟩ := Γ
  intro H locs ls hP hD hS hl
  exact lv_goto B.1.1 B.1.2.1 d hp (kk H locs ls hP hD hS hl)
theorem x_if_eq (B : CX Γ cc nL own R0) {x : Int32} {off : Int} (tgt pc' : Nat) (d : decode cc pc = .ok (.ifCond .eq off, 3)) (ht : (pc : Int) + off = (tgt : Int)) (hp : pc + 3 = pc') (kt : x = 0 → X Γ nL k n tgt lv st ws) (kf : ¬ x = 0 → X Γ nL k n pc' lv st ws) : X Γ nL k n pc lv (.int x :: st) ws := by
  obtain ⟨p, l, e, R, s, m, args, below, meth, c, Q, A, D, cs⟩ := Γ
  subst hp
  intro H locs ls hP hD hS hl
  exact lv_if_eq B.1.1 B.1.2.1 d ht (fun h => kt h H locs ls hP hD hS hl) (fun h => kf h H locs ls hP hD hS hl)
theorem x_icmp_eq (B : CX Γ cc nL own R0) {x y : Int32} {off : Int} (tgt pc' : Nat) (d : decode cc pc = .ok (.if_icmp .eq off, 3)) (ht : (pc : Int) + off = (tgt : Int)) (hp : pc + 3 = pc') (kt : x = y → X Γ nL k n tgt lv st ws) (kf : ¬ x = y → X Γ nL k n pc' lv st ws) : X Γ nL k n pc lv (.int y :: .int x :: st) ws := by
  obtain ⟨p, l, e, R, s, m, args, below, meth, c, Q, A, D, cs⟩ := Γ
  subst hp
  intro H locs ls hP hD hS hl
  exact lv_icmp_eq B.1.1 B.1.2.1 d ht (fun h => kt h H locs ls hP hD hS hl) (fun h => kf h H locs ls hP hD hS hl)
theorem x_if_ne (B : CX Γ cc nL own R0) {x : Int32} {off : Int} (tgt pc' : Nat) (d : decode cc pc = .ok (.ifCond .ne off, 3)) (ht : (pc : Int) + off = (tgt : Int)) (hp : pc + 3 = pc') (kt : ¬ x = 0 → X Γ nL k n tgt lv st ws) (kf : x = 0 → X Γ nL k n pc' lv st ws) : X Γ nL k n pc lv (.int x :: st) ws := by
  obtain ⟨p, l, e, R, s, m, args, below, meth, c, Q, A, D, cs⟩ := Γ
  subst hp
  intro H locs ls hP hD hS hl
  exact lv_if_ne B.1.1 B.1.2.1 d ht (fun h => kt h H locs ls hP hD hS hl) (fun h => kf h H locs ls hP hD hS hl)
theorem x_icmp_ne (B : CX Γ cc nL own R0) {x y : Int32} {off : Int} (tgt pc' : Nat) (d : decode cc pc = .ok (.if_icmp .ne off, 3)) (ht : (pc : Int) + off = (tgt : Int)) (hp : pc + 3 = pc') (kt : ¬ x = y → X Γ nL k n tgt lv st ws) (kf : x = y → X Γ nL k n pc' lv st ws) : X Γ nL k n pc lv (.int y :: .int x :: st) ws := by
  obtain ⟨p, l, e, R, s, m, args, below, meth, c, Q, A, D, cs⟩ := Γ
  subst hp
  intro H locs ls hP hD hS hl
  exact lv_icmp_ne B.1.1 B.1.2.1 d ht (fun h => kt h H locs ls hP hD hS hl) (fun h => kf h H locs ls hP hD hS hl)
theorem x_if_lt (B : CX Γ cc nL own R0) {x : Int32} {off : Int} (tgt pc' : Nat) (d : decode cc pc = .ok (.ifCond .lt off, 3)) (ht : (pc : Int) + off = (tgt : Int)) (hp : pc + 3 = pc') (kt : x < 0 → X Γ nL k n tgt lv st ws) (kf : ¬ x < 0 → X Γ nL k n pc' lv st ws) : X Γ nL k n pc lv (.int x :: st) ws := by
  obtain ⟨p, l, e, R, s, m, args, below, meth, c, Q, A, D, cs⟩ := Γ
  subst hp
  intro H locs ls hP hD hS hl
  exact lv_if_lt B.1.1 B.1.2.1 d ht (fun h => kt h H locs ls hP hD hS hl) (fun h => kf h H locs ls hP hD hS hl)
theorem x_icmp_lt (B : CX Γ cc nL own R0) {x y : Int32} {off : Int} (tgt pc' : Nat) (d : decode cc pc = .ok (.if_icmp .lt off, 3)) (ht : (pc : Int) + off = (tgt : Int)) (hp : pc + 3 = pc') (kt : x < y → X Γ nL k n tgt lv st ws) (kf : ¬ x < y → X Γ nL k n pc' lv st ws) : X Γ nL k n pc lv (.int y :: .int x :: st) ws := by
  obtain ⟨p, l, e, R, s, m, args, below, meth, c, Q, A, D, cs⟩ := Γ
  subst hp
  intro H locs ls hP hD hS hl
  exact lv_icmp_lt B.1.1 B.1.2.1 d ht (fun h => kt h H locs ls hP hD hS hl) (fun h => kf h H locs ls hP hD hS hl)
theorem x_if_ge (B : CX Γ cc nL own R0) {x : Int32} {off : Int} (tgt pc' : Nat) (d : decode cc pc = .ok (.ifCond .ge off, 3)) (ht : (pc : Int) + off = (tgt : Int)) (hp : pc + 3 = pc') (kt : 0 ≤ x → X Γ nL k n tgt lv st ws) (kf : ¬ 0 ≤ x → X Γ nL k n pc' lv st ws) : X Γ nL k n pc lv (.int x :: st) ws := by
  obtain ⟨p, l, e, R, s, m, args, below, meth, c, Q, A, D, cs⟩ := Γ
  subst hp
  intro H locs ls hP hD hS hl
  exact lv_if_ge B.1.1 B.1.2.1 d ht (fun h => kt h H locs ls hP hD hS hl) (fun h => kf h H locs ls hP hD hS hl)
theorem x_icmp_ge (B : CX Γ cc nL own R0) {x y : Int32} {off : Int} (tgt pc' : Nat) (d : decode cc pc = .ok (.if_icmp .ge off, 3)) (ht : (pc : Int) + off = (tgt : Int)) (hp : pc + 3 = pc') (kt : y ≤ x → X Γ nL k n tgt lv st ws) (kf : ¬ y ≤ x → X Γ nL k n pc' lv st ws) : X Γ nL k n pc lv (.int y :: .int x :: st) ws := by
  obtain ⟨p, l, e, R, s, m, args, below, meth, c, Q, A, D, cs⟩ := Γ
  subst hp
  intro H locs ls hP hD hS hl
  exact lv_icmp_ge B.1.1 B.1.2.1 d ht (fun h => kt h H locs ls hP hD hS hl) (fun h => kf h H locs ls hP hD hS hl)
theorem x_if_gt (B : CX Γ cc nL own R0) {x : Int32} {off : Int} (tgt pc' : Nat) (d : decode cc pc = .ok (.ifCond .gt off, 3)) (ht : (pc : Int) + off = (tgt : Int)) (hp : pc + 3 = pc') (kt : 0 < x → X Γ nL k n tgt lv st ws) (kf : ¬ 0 < x → X Γ nL k n pc' lv st ws) : X Γ nL k n pc lv (.int x :: st) ws := by
  obtain ⟨p, l, e, R, s, m, args, below, meth, c, Q, A, D, cs⟩ := Γ
  subst hp
  intro H locs ls hP hD hS hl
  exact lv_if_gt B.1.1 B.1.2.1 d ht (fun h => kt h H locs ls hP hD hS hl) (fun h => kf h H locs ls hP hD hS hl)
theorem x_icmp_gt (B : CX Γ cc nL own R0) {x y : Int32} {off : Int} (tgt pc' : Nat) (d : decode cc pc = .ok (.if_icmp .gt off, 3)) (ht : (pc : Int) + off = (tgt : Int)) (hp : pc + 3 = pc') (kt : y < x → X Γ nL k n tgt lv st ws) (kf : ¬ y < x → X Γ nL k n pc' lv st ws) : X Γ nL k n pc lv (.int y :: .int x :: st) ws := by
  obtain ⟨p, l, e, R, s, m, args, below, meth, c, Q, A, D, cs⟩ := Γ
  subst hp
  intro H locs ls hP hD hS hl
  exact lv_icmp_gt B.1.1 B.1.2.1 d ht (fun h => kt h H locs ls hP hD hS hl) (fun h => kf h H locs ls hP hD hS hl)
theorem x_if_le (B : CX Γ cc nL own R0) {x : Int32} {off : Int} (tgt pc' : Nat) (d : decode cc pc = .ok (.ifCond .le off, 3)) (ht : (pc : Int) + off = (tgt : Int)) (hp : pc + 3 = pc') (kt : x ≤ 0 → X Γ nL k n tgt lv st ws) (kf : ¬ x ≤ 0 → X Γ nL k n pc' lv st ws) : X Γ nL k n pc lv (.int x :: st) ws := by
  obtain ⟨p, l, e, R, s, m, args, below, meth, c, Q, A, D, cs⟩ := Γ
  subst hp
  intro H locs ls hP hD hS hl
  exact lv_if_le B.1.1 B.1.2.1 d ht (fun h => kt h H locs ls hP hD hS hl) (fun h => kf h H locs ls hP hD hS hl)
theorem x_icmp_le (B : CX Γ cc nL own R0) {x y : Int32} {off : Int} (tgt pc' : Nat) (d : decode cc pc = .ok (.if_icmp .le off, 3)) (ht : (pc : Int) + off = (tgt : Int)) (hp : pc + 3 = pc') (kt : x ≤ y → X Γ nL k n tgt lv st ws) (kf : ¬ x ≤ y → X Γ nL k n pc' lv st ws) : X Γ nL k n pc lv (.int y :: .int x :: st) ws := by
  obtain ⟨p, l, e, R, s, m, args, below, meth, c, Q, A, D, cs⟩ := Γ
  subst hp
  intro H locs ls hP hD hS hl
  exact lv_icmp_le B.1.1 B.1.2.1 d ht (fun h => kt h H locs ls hP hD hS hl) (fun h => kf h H locs ls hP hD hS hl)
theorem x_lookup (B : CX Γ cc nL own R0) {dflt : Int} {ps : Array (Int × Int)} {len : Nat} {x : Int32} {off : Int} (d : decode cc pc = .ok (.lookupswitch dflt ps, len)) (hs : (ps.toList.zip (ps.toList.drop 1)).all (fun (a, next) => a.1 < next.1) = true) (ho : Op.lookupswitch.offset ps.toList dflt x.toInt = off) (hp : (pc : Int) + off = (pc' : Int)) (kk : X Γ nL k n pc' lv st ws) : X Γ nL k n pc lv (.int x :: st) ws := by
  obtain ⟨p, l, e, R, s, m, args, below, meth, c, Q, A, D, cs⟩ := Γ
  intro H locs ls hP hD hS hl
  exact lv_lookup B.1.1 B.1.2.1 d hs ho hp (kk H locs ls hP hD hS hl)
theorem x_tableIn (B : CX Γ cc nL own R0) {dflt lo hi : Int} {offs : Array Int} {len : Nat} {x : Int32} {off : Int} (d : decode cc pc = .ok (.tableswitch dflt lo hi offs, len)) (h1 : ¬ x.toInt < lo) (h2 : ¬ hi < x.toInt) (ho : offs[(x.toInt - lo).toNat]? = some off) (hp : (pc : Int) + off = (pc' : Int)) (kk : X Γ nL k n pc' lv st ws) : X Γ nL k n pc lv (.int x :: st) ws := by
  obtain ⟨p, l, e, R, s, m, args, below, meth, c, Q, A, D, cs⟩ := Γ
  intro H locs ls hP hD hS hl
  exact lv_tableIn B.1.1 B.1.2.1 d h1 h2 ho hp (kk H locs ls hP hD hS hl)
theorem x_tableOut (B : CX Γ cc nL own R0) {dflt lo hi : Int} {offs : Array Int} {len : Nat} {x : Int32} (d : decode cc pc = .ok (.tableswitch dflt lo hi offs, len)) (h : x.toInt < lo ∨ hi < x.toInt) (hp : (pc : Int) + dflt = (pc' : Int)) (kk : X Γ nL k n pc' lv st ws) : X Γ nL k n pc lv (.int x :: st) ws := by
  obtain ⟨p, l, e, R, s, m, args, below, meth, c, Q, A, D, cs⟩ := Γ
  intro H locs ls hP hD hS hl
  exact lv_tableOut B.1.1 B.1.2.1 d h hp (kk H locs ls hP hD hS hl)
end ROWS2
end
section
section ROWS3
variable {Γ : Ctx} {cc : ByteArray} {nL k n pc pc' : Nat} {own : String} {R0 : Room} {lv lv' : List (Nat × Value)} {st : List Value} {ws ws' : va_W}
theorem x_lv (is : List Nat) (h : lv_pick lv is = lv') (kk : X Γ nL k n pc lv' st ws) : X Γ nL k n pc lv st ws := by
  obtain ⟨p, l, e, R, s, m, args, below, meth, c, Q, A, D, cs⟩ := Γ
  intro H locs ls hP hD hS hl
  exact kk H locs ls hP hD hS (lv_sub hl is h)
theorem x_topi {x v : Int32} (h : v = x) (kk : X Γ nL k n pc lv (.int v :: st) ws) : X Γ nL k n pc lv (.int x :: st) ws := h ▸ kk
theorem x_topl {x v : Int64} (h : v = x) (kk : X Γ nL k n pc lv (.long v :: st) ws) : X Γ nL k n pc lv (.long x :: st) ws := h ▸ kk
theorem x_wd {σ : Type} {f : σ → va_W} {S S' : σ} (h : S' = S) (kk : X Γ nL k n pc lv st (f S')) : X Γ nL k n pc lv st (f S) := h ▸ kk
theorem x_widen {k' n' : Nat} (h1 : k ≤ k') (h2 : n ≤ n') (kk : X Γ nL k' n' pc lv st ws) : X Γ nL k n pc lv st ws := by
  obtain ⟨p, l, e, R, s, m, args, below, meth, c, Q, A, D, cs⟩ := Γ
  intro H locs ls hP hD hS hl
  exact W.widen h1 h2 (kk H locs ls hP hD hS hl)
theorem x_getf (B : CX Γ cc nL own R0) {index ci N : Nat} {C : String} {T : u_T} {a : Nat} {fs : List Value} {v : Value} (q0 k0 : Nat) (he : ws[q0]? = some (a, .inr (ci, fs))) (hc : vwCl[ci]? = some (C, T, N)) (hin : ∀ w ∈ u_ws C T N, w ∈ GW) (hk : k0 < N) (hw : Cond.fieldLink own index (T k0).1 (T k0).2.1 (T k0).2.2.1 ∈ GW) (hv : fs[k0]? = some v) (d : decode cc pc = .ok (.getfield index, 3)) (hp : pc + 3 = pc') (kk : X Γ nL k n pc' lv (v :: st) ws) : X Γ nL k n pc lv (.ref a :: st) ws := by
  obtain ⟨p, l, e, R, s, m, args, below, meth, c, Q, A, D, cs⟩ := Γ
  subst hp
  intro H locs ls hP hD hS hl
  exact va_get B.1.1 B.1.2.1 B.1.2.2.2.2 hin B.1.2.2.2.1 B.2.1.1 hP q0 he hc k0 hk (B.1.2.2.2.2 _ hw) (fun _ h => h) hv d (kk H locs ls hP hD hS hl)
theorem x_putf (B : CX Γ cc nL own R0) {index ci N : Nat} {C : String} {T : u_T} {a : Nat} {fs : List Value} {v : Value} (q0 k0 : Nat) (ty0 : Nat → FieldType) (hty : ∀ k, k < N → parseFieldDescriptor (T k).2.2.1 = some (ty0 k)) (hnm : ∀ a, a < N → ∀ b, b < N → a ≠ b → (T a).2.1 ≠ (T b).2.1) (he : ws[q0]? = some (a, .inr (ci, fs))) (hc : vwCl[ci]? = some (C, T, N)) (hin : ∀ w ∈ u_ws C T N, w ∈ GW) (hk : k0 < N) (hw : Cond.fieldLink own index (T k0).1 (T k0).2.1 (T k0).2.2.1 ∈ GW) (hfin : (T k0).2.2.2 = false) (hn : narrow (ty0 k0) v = v) (hfit : fits (ty0 k0) v = true) (hlen : k0 < fs.length) (hws : ws.set q0 (a, .inr (ci, fs.set k0 v)) = ws') (d : decode cc pc = .ok (.putfield index, 3)) (hp : pc + 3 = pc') (kk : X Γ nL k n pc' lv st ws') : X Γ nL k n pc lv (v :: .ref a :: st) ws := by
  obtain ⟨p, l, e, R, s, m, args, below, meth, c, Q, A, D, cs⟩ := Γ
  subst hp
  subst hws
  intro H locs ls hP hD hS hl
  exact va_put B.1.1 B.1.2.1 B.1.2.2.2.2 hin ty0 hty hnm B.1.2.2.2.1 B.2.1.1 hP hD hS q0 he hc k0 hk (B.1.2.2.2.2 _ hw) (fun _ h => h) hfin (hty k0 hk) hn hfit hlen d (fun H1 locs1 hP1 hD1 hS1 => kk H1 locs1 ls hP1 hD1 hS1 hl)
theorem x_putF (B : CX Γ cc nL own R0) (hin2 : Γ.2.2.2.2.2.2.2.2.1.name = "<init>") {index ci N : Nat} {C : String} {T : u_T} {a : Nat} {fs : List Value} {v : Value} (q0 k0 : Nat) (ty0 : Nat → FieldType) (hty : ∀ k, k < N → parseFieldDescriptor (T k).2.2.1 = some (ty0 k)) (hnm : ∀ a, a < N → ∀ b, b < N → a ≠ b → (T a).2.1 ≠ (T b).2.1) (he : ws[q0]? = some (a, .inr (ci, fs))) (hc : vwCl[ci]? = some (C, T, N)) (hin : ∀ w ∈ u_ws C T N, w ∈ GW) (hk : k0 < N) (hw : Cond.fieldLink own index (T k0).1 (T k0).2.1 (T k0).2.2.1 ∈ GW) (hfin : (T k0).2.2.2 = true) (hdecl : (T k0).1 = own) (hn : narrow (ty0 k0) v = v) (hfit : fits (ty0 k0) v = true) (hlen : k0 < fs.length) (hws : ws.set q0 (a, .inr (ci, fs.set k0 v)) = ws') (d : decode cc pc = .ok (.putfield index, 3)) (hp : pc + 3 = pc') (kk : X Γ nL k n pc' lv st ws') : X Γ nL k n pc lv (v :: .ref a :: st) ws := by
  obtain ⟨p, l, e, R, s, m, args, below, meth, c, Q, A, D, cs⟩ := Γ
  subst hp
  subst hws
  intro H locs ls hP hD hS hl
  exact va_putF B.1.1 B.1.2.1 B.1.2.2.2.2 hin ty0 hty hnm B.1.2.2.2.1 B.2.1.1 hP hD hS q0 he hc k0 hk (B.1.2.2.2.2 _ hw) (fun _ h => h) hfin hin2 hdecl (hty k0 hk) hn hfit hlen d (fun H1 locs1 hP1 hD1 hS1 => kk H1 locs1 ls hP1 hD1 hS1 hl)
theorem x_iald (B : CX Γ cc nL own R0) {a N : Nat} {f : Nat → Int32} {i : Int32} (q0 : Nat) (he : ws[q0]? = some (a, .inl (Γ.cs.1, N, .inl f))) (hi : vp_in i N) (d : decode cc pc = .ok (.iaload, 1)) (hp : pc + 1 = pc') (kk : X Γ nL k n pc' lv (.int (f i.toNatClampNeg) :: st) ws) : X Γ nL k n pc lv (.int i :: .ref a :: st) ws := by
  obtain ⟨p, l, e, R, s, m, args, below, meth, c, Q, A, D, cs⟩ := Γ
  subst hp
  intro H locs ls hP hD hS hl
  exact va_iald B.1.1 B.1.2.1 B.2.1.1 hP q0 0 he rfl hi d (kk H locs ls hP hD hS hl)
theorem x_iast (B : CX Γ cc nL own R0) {a N : Nat} {f : Nat → Int32} {i v : Int32} (q0 : Nat) (he : ws[q0]? = some (a, .inl (Γ.cs.1, N, .inl f))) (hi : vp_in i N) (hws : ws.set q0 (a, .inl (Γ.cs.1, N, .inl (upd f i.toNatClampNeg v))) = ws') (d : decode cc pc = .ok (.iastore, 1)) (hp : pc + 1 = pc') (kk : X Γ nL k n pc' lv st ws') : X Γ nL k n pc lv (.int v :: .int i :: .ref a :: st) ws := by
  obtain ⟨p, l, e, R, s, m, args, below, meth, c, Q, A, D, cs⟩ := Γ
  subst hp
  subst hws
  intro H locs ls hP hD hS hl
  exact va_iast B.1.1 B.1.2.1 B.2.1.1 hP hD hS q0 0 he rfl hi d (fun H1 locs1 hP1 hD1 hS1 => kk H1 locs1 ls hP1 hD1 hS1 hl)
theorem x_lald (B : CX Γ cc nL own R0) {a N : Nat} {f : Nat → Int64} {i : Int32} (q0 : Nat) (he : ws[q0]? = some (a, .inl (Γ.cs.2.1, N, .inr (.inl f)))) (hi : vp_in i N) (d : decode cc pc = .ok (.laload, 1)) (hp : pc + 1 = pc') (kk : X Γ nL k n pc' lv (.long (f i.toNatClampNeg) :: st) ws) : X Γ nL k n pc lv (.int i :: .ref a :: st) ws := by
  obtain ⟨p, l, e, R, s, m, args, below, meth, c, Q, A, D, cs⟩ := Γ
  subst hp
  intro H locs ls hP hD hS hl
  exact va_lald B.1.1 B.1.2.1 B.2.1.1 hP q0 1 he rfl hi d (kk H locs ls hP hD hS hl)
theorem x_last (B : CX Γ cc nL own R0) {a N : Nat} {f : Nat → Int64} {i : Int32} {v : Int64} (q0 : Nat) (he : ws[q0]? = some (a, .inl (Γ.cs.2.1, N, .inr (.inl f)))) (hi : vp_in i N) (hws : ws.set q0 (a, .inl (Γ.cs.2.1, N, .inr (.inl (vp_updL f i.toNatClampNeg v)))) = ws') (d : decode cc pc = .ok (.lastore, 1)) (hp : pc + 1 = pc') (kk : X Γ nL k n pc' lv st ws') : X Γ nL k n pc lv (.long v :: .int i :: .ref a :: st) ws := by
  obtain ⟨p, l, e, R, s, m, args, below, meth, c, Q, A, D, cs⟩ := Γ
  subst hp
  subst hws
  intro H locs ls hP hD hS hl
  exact va_last B.1.1 B.1.2.1 B.2.1.1 hP hD hS q0 1 he rfl hi d (fun H1 locs1 hP1 hD1 hS1 => kk H1 locs1 ls hP1 hD1 hS1 hl)
theorem x_alen (B : CX Γ cc nL own R0) {a N : Nat} {f : Nat → Int32} (v : Int32) (q0 : Nat) (he : ws[q0]? = some (a, .inl (Γ.cs.1, N, .inl f))) (hv : nI N = v) (d : decode cc pc = .ok (.arraylength, 1)) (hp : pc + 1 = pc') (kk : X Γ nL k n pc' lv (.int v :: st) ws) : X Γ nL k n pc lv (.ref a :: st) ws := by
  obtain ⟨p, l, e, R, s, m, args, below, meth, c, Q, A, D, cs⟩ := Γ
  subst hp
  intro H locs ls hP hD hS hl
  exact va_alen B.1.1 B.1.2.1 B.2.1.1 hP q0 0 he rfl (by rw [← hv]; rfl) d (kk H locs ls hP hD hS hl)
/-! contracts -/
/-- a method's start: its arguments, its world -/
def PR (D : va_G) (cs : CS) (av : List Value) (w : va_W) (sz : Nat) : Array Value → State → Prop := va_Pc av (fun U => U.heap.size = sz ∧ va_P D vwCl w U.heap ∧ KN D cs U ∧ va_D (fun _ => True) w)
def PO (D : va_G) (w w' : va_W) (sz : Nat) : Unit → State → Prop := fun _ t => va_P D vwCl w' t.heap ∧ va_D (va_A w sz) w'
def MI (l : Launch) (D : va_G) (cs : CS) (y : MethodName) (bytes : ByteArray) (maxL : Nat) (rt : FieldType) (rm : Room) (av : List Value) (w : va_W) (r : Int32) (w' : va_W) : Prop := ∀ sz, Met l y (.code y bytes maxL (some rt) :: GW) rm (PR D cs av w sz) (va_Qi (fun r' _ => r' = r) (PO D w w' sz) (va_A w sz)) rm.cells rm.slots (va_A w sz)
def ML (l : Launch) (D : va_G) (cs : CS) (y : MethodName) (bytes : ByteArray) (maxL : Nat) (rm : Room) (av : List Value) (w : va_W) (r : Int64) (w' : va_W) : Prop := ∀ sz, Met l y (.code y bytes maxL (some .long) :: GW) rm (PR D cs av w sz) (va_Ql (fun r' _ => r' = r) (PO D w w' sz) (va_A w sz)) rm.cells rm.slots (va_A w sz)
def MV (l : Launch) (D : va_G) (cs : CS) (y : MethodName) (bytes : ByteArray) (maxL : Nat) (rm : Room) (av : List Value) (w w' : va_W) : Prop := ∀ sz, Met l y (.code y bytes maxL none :: GW) rm (PR D cs av w sz) (va_Qv (fun _ => True) (PO D w w' sz) (va_A w sz)) rm.cells rm.slots (va_A w sz)
theorem pr_blind (D : va_G) (cs : CS) (av : List Value) (w : va_W) (sz : Nat) : FrameBlind (PR D cs av w sz) := fun a U g mk q => by
  obtain ⟨q0, q1, qP, qK, qD⟩ := q
  exact ⟨q0, q1, qP, KN.same (s := U) (U := U.calling g mk a) rfl qK, qD⟩
theorem MI_of {l : Launch} {D : va_G} {cs : CS} {y : MethodName} {bytes : ByteArray} {maxL : Nat} {rt : FieldType} {r : Int32} {rm : Room} {av : List Value} {w w' : va_W} (hy : plainName y.cls = true) (hlen : (lg_sl av).length ≤ maxL)
    (body : ∀ Γ : Ctx, Γ.l = l → Γ.D = D → Γ.cs = cs → CX Γ bytes maxL y.cls rm → (∀ {k n pc : Nat} {lv : List (Nat × Value)}, narrow rt (.int r) = .int r → k ≤ rm.cells → n ≤ rm.slots → decode bytes pc = .ok (.ireturn, 1) → X Γ maxL k n pc lv [.int r] w') → X Γ maxL 0 0 0 (lv_args 0 av) [] w) : MI l D cs y bytes maxL rt rm av w r w' := by
  intro sz
  refine Met.ofW (cc := bytes) (maxL := maxL) (ret := some rt) hy rfl ?_
  intro p e s m args below meth c s₁ B hml hv
  obtain ⟨rfl, hsz, hP, hK, hD0⟩ := hv
  subst hsz
  have hts := atoms_spec (ws := .code y bytes maxL (some rt) :: GW) B.pre
  have hown : s.vm.findClass y.cls = some m.cls := findClass_of_methodNamed B.named
  have hl := lv_entry av (n := maxL) hlen
  rw [lg_entry_eq]
  have hD := hD0.self (sz := s.heap.size)
  refine body (p, l, e, rm, s, m, av.toArray, below, meth, c, _, va_A w s.heap.size, D, cs) rfl rfl rfl ⟨⟨B.exec, B.bytes, hml, hown, fun w h => hts w (List.mem_cons_of_mem _ h)⟩, hK, fun q h => Or.inr h, B.notSynchronized, rfl⟩ ?_ s.heap [] _ hP hD va_S.rf hl
  intro k n pc lv hnar hk hn d H locs ls hP1 hD1 hS hl1
  have hlocks : meth.locks = false := B.notSynchronized
  exact W.widen hk hn (W.zret B.exec B.bytes B.returns hnar (fun t ht hW => ⟨⟨r, (), rfl, rfl, by rw [ht]; exact hP1, hD1⟩, hS.F ht⟩) hS.2.2 d)
theorem ML_of {l : Launch} {D : va_G} {cs : CS} {y : MethodName} {bytes : ByteArray} {maxL : Nat} {r : Int64} {rm : Room} {av : List Value} {w w' : va_W} (hy : plainName y.cls = true) (hlen : (lg_sl av).length ≤ maxL)
    (body : ∀ Γ : Ctx, Γ.l = l → Γ.D = D → Γ.cs = cs → CX Γ bytes maxL y.cls rm → (∀ {k n pc : Nat} {lv : List (Nat × Value)}, k ≤ rm.cells → n ≤ rm.slots → decode bytes pc = .ok (.lreturn, 1) → X Γ maxL k n pc lv [.long r] w') → X Γ maxL 0 0 0 (lv_args 0 av) [] w) : ML l D cs y bytes maxL rm av w r w' := by
  intro sz
  refine Met.ofW (cc := bytes) (maxL := maxL) (ret := some .long) hy rfl ?_
  intro p e s m args below meth c s₁ B hml hv
  obtain ⟨rfl, hsz, hP, hK, hD0⟩ := hv
  subst hsz
  have hts := atoms_spec (ws := .code y bytes maxL (some .long) :: GW) B.pre
  have hown : s.vm.findClass y.cls = some m.cls := findClass_of_methodNamed B.named
  have hl := lv_entry av (n := maxL) hlen
  rw [lg_entry_eq]
  have hD := hD0.self (sz := s.heap.size)
  refine body (p, l, e, rm, s, m, av.toArray, below, meth, c, _, va_A w s.heap.size, D, cs) rfl rfl rfl ⟨⟨B.exec, B.bytes, hml, hown, fun w h => hts w (List.mem_cons_of_mem _ h)⟩, hK, fun q h => Or.inr h, B.notSynchronized, rfl⟩ ?_ s.heap [] _ hP hD va_S.rf hl
  intro k n pc lv hk hn d H locs ls hP1 hD1 hS hl1
  have hlocks : meth.locks = false := B.notSynchronized
  exact W.widen hk hn (W.lret B.exec B.bytes B.returns (fun t ht hW => ⟨⟨r, (), rfl, rfl, by rw [ht]; exact hP1, hD1⟩, hS.F ht⟩) hS.2.2 d)
theorem MV_of {l : Launch} {D : va_G} {cs : CS} {y : MethodName} {bytes : ByteArray} {maxL : Nat} {rm : Room} {av : List Value} {w w' : va_W} (hy : plainName y.cls = true) (hlen : (lg_sl av).length ≤ maxL)
    (body : ∀ Γ : Ctx, Γ.l = l → Γ.D = D → Γ.cs = cs → CX Γ bytes maxL y.cls rm → (∀ {k n pc : Nat} {lv : List (Nat × Value)}, k ≤ rm.cells → n ≤ rm.slots → decode bytes pc = .ok (.return_, 1) → X Γ maxL k n pc lv [] w') → X Γ maxL 0 0 0 (lv_args 0 av) [] w) : MV l D cs y bytes maxL rm av w w' := by
  intro sz
  refine Met.ofW (cc := bytes) (maxL := maxL) (ret := none) hy rfl ?_
  intro p e s m args below meth c s₁ B hml hv
  obtain ⟨rfl, hsz, hP, hK, hD0⟩ := hv
  subst hsz
  have hts := atoms_spec (ws := .code y bytes maxL (none) :: GW) B.pre
  have hown : s.vm.findClass y.cls = some m.cls := findClass_of_methodNamed B.named
  have hl := lv_entry av (n := maxL) hlen
  rw [lg_entry_eq]
  have hD := hD0.self (sz := s.heap.size)
  refine body (p, l, e, rm, s, m, av.toArray, below, meth, c, _, va_A w s.heap.size, D, cs) rfl rfl rfl ⟨⟨B.exec, B.bytes, hml, hown, fun w h => hts w (List.mem_cons_of_mem _ h)⟩, hK, fun q h => Or.inr h, B.notSynchronized, rfl⟩ ?_ s.heap [] _ hP hD va_S.rf hl
  intro k n pc lv hk hn d H locs ls hP1 hD1 hS hl1
  have hlocks : meth.locks = false := B.notSynchronized
  exact W.widen hk hn (W.vret B.exec B.bytes B.returns (fun t ht hW => ⟨⟨(), rfl, trivial, by rw [ht]; exact hP1, hD1⟩, hS.F ht⟩) hS.2.2 d)
theorem fm_of {α : Type} {f : Nat → Option α} : ∀ {is : List Nat} {w : List α}, is.map f = w.map some → is.filterMap f = w
  | [], [], _ => rfl
  | [], _ :: _, h => by cases h
  | _ :: _, [], h => by cases h
  | i :: is, a :: w, h => by
    rw [List.map_cons, List.map_cons, List.cons.injEq] at h
    rw [List.filterMap_cons, h.1]
    exact congrArg (a :: ·) (fm_of h.2)
theorem x_GVi {Γ : Ctx} {cc : ByteArray} {nL k n pc pc' : Nat} {own : String} {R0 : Room} {lv : List (Nat × Value)} {st st0 : List Value} {ws ws' : va_W} (B : CX Γ cc nL own R0) {y : MethodName} {index maxL : Nat} {bytes : ByteArray} {rt : FieldType} {r : Int32} {rm : Room} {b : Addr} (As : List Value) {w w' wr : va_W} (hM : MI Γ.l Γ.D Γ.cs y bytes maxL rt rm (.ref b :: As) w r w') (isC isR is : List Nat) (hC : isC.map (fun i => ws[i]?) = w.map some) (hcn : va_nd isC = true) (hRr : isR.map (fun i => ws[i]?) = wr.map some) (hrn : va_nd isR = true) (hdis : ∀ i ∈ isR, i ∉ isC) (hN : is.map (fun i => (wr ++ w')[i]?) = ws'.map some) (hn2 : va_nd is = true) {ci : Nat} {fs : List Value} {q3 : vw_C} (hrec : (w : va_W)[0]? = some (b, .inr (ci, fs))) (hcl : vwCl[ci]? = some q3) (hg : GoodIn GW (wsV own index q3.1 y (.code y bytes maxL (some rt) :: GW))) (hcc : y.cls = q3.1) (hd : y.cls ≠ "java/lang/invoke/MethodHandle" ∧ y.cls ≠ "java/lang/invoke/VarHandle" ∧ (parseMethodDescriptor y.desc).map (fun d => d.parameters.length) = some As.length) (hR : rm.frames + 1 ≤ R0.frames ∧ 8 + (maxL + 11) + rm.locals ≤ R0.locals) (hroom : k + rm.cells ≤ R0.cells ∧ n + rm.slots ≤ R0.slots) (hstk : st0 = As.reverse ++ .ref b :: st) (hsum : (st.map fun v => v.category).sum ≤ 8) (d : decode cc pc = .ok (.invokevirtual index, 3)) (hp : pc + 3 = pc') (kk : X Γ nL (k + rm.cells) (n + rm.slots) pc' lv (.int r :: st) ws') : X Γ nL k n pc lv st0 ws := by
  obtain ⟨p, l, e, R, s, m, args, below, meth, c, Q, A, D, cs⟩ := Γ
  subst hp
  subst hstk
  obtain ⟨hfix, hKN, hA, hlk, rfl⟩ := B
  intro H locs ls hP hD hS hl
  have hPc : va_P D vwCl w H := hP.sub isC (fm_of hC)
  have hDc : va_D A w := hD.sub isC hcn hC
  have hFc := va_free hD hS hA isC hC
  refine va_calli (va_runV (As := As) (rest := st) hfix (hM H.size) (cwV As.length hfix.2.2.2.2 hg rfl rfl rfl ⟨hcc, hd⟩ hR) ⟨pr_blind _ _ _ _ _, va_recv hKN.1 hPc (q := q3) hcl (q0 := 0) hrec, fun U hU hW => ⟨rfl, by rw [hU], by rw [hU]; exact hPc, KN.warm hW hKN, hDc.weaken (fun _ _ _ _ => trivial)⟩⟩ rfl rfl hl.1 rfl (lv_room hsum) d hroom) hS (fun q _ h => hFc q h) hFc (fun r2 u t H1 locs1 ht hvm hw hB hz1 hk1 hS1 => ?_)
  subst hw
  obtain ⟨hP1, hD1⟩ := hB
  rw [ht] at hP1
  obtain ⟨hP2, hD2⟩ := va_join hP hD isC isR hC hRr hrn hdis hk1 hFc hP1 hD1
  exact kk H1 locs1 ls (hP2.sub is (fm_of hN)) (hD2.sub is hn2 hN) hS1 hl
theorem x_selfVi {Γ : Ctx} {cc : ByteArray} {nL k n pc pc' : Nat} {own : String} {R0 : Room} {lv : List (Nat × Value)} {st st0 : List Value} {ws ws' : va_W} (B : CX Γ cc nL own R0) {y : MethodName} {index maxL : Nat} {bytes : ByteArray} {rt : FieldType} {r : Int32} {rm : Room} {b : Addr} (As : List Value) (hM : MI Γ.l Γ.D Γ.cs y bytes maxL rt rm (.ref b :: As) ws r ws') {ci : Nat} {fs : List Value} {q3 : vw_C} (hrec : (ws : va_W)[0]? = some (b, .inr (ci, fs))) (hcl : vwCl[ci]? = some q3) (hg : GoodIn GW (wsV own index q3.1 y (.code y bytes maxL (some rt) :: GW))) (hcc : y.cls = q3.1) (hd : y.cls ≠ "java/lang/invoke/MethodHandle" ∧ y.cls ≠ "java/lang/invoke/VarHandle" ∧ (parseMethodDescriptor y.desc).map (fun d => d.parameters.length) = some As.length) (hR : rm.frames + 1 ≤ R0.frames ∧ 8 + (maxL + 11) + rm.locals ≤ R0.locals) (hroom : k + rm.cells ≤ R0.cells ∧ n + rm.slots ≤ R0.slots) (hstk : st0 = As.reverse ++ .ref b :: st) (hsum : (st.map fun v => v.category).sum ≤ 8) (d : decode cc pc = .ok (.invokevirtual index, 3)) (hp : pc + 3 = pc') (kk : X Γ nL (k + rm.cells) (n + rm.slots) pc' lv (.int r :: st) ws') : X Γ nL k n pc lv st0 ws := by
  obtain ⟨p, l, e, R, s, m, args, below, meth, c, Q, A, D, cs⟩ := Γ
  subst hp
  subst hstk
  obtain ⟨hfix, hKN, hA, hlk, rfl⟩ := B
  intro H locs ls hP hD hS hl
  have hPc : va_P D vwCl ws H := hP
  have hDc : va_D A ws := hD
  have hFc : ∀ q, va_A ws H.size q → A q := fun q h => h.elim (fun ⟨k9, e9, h9⟩ => hD.2 k9 (q, e9) h9) (fun h9 => hA q (Nat.le_trans hS.1 h9))
  refine va_calli (va_runV (As := As) (rest := st) hfix (hM H.size) (cwV As.length hfix.2.2.2.2 hg rfl rfl rfl ⟨hcc, hd⟩ hR) ⟨pr_blind _ _ _ _ _, va_recv hKN.1 hPc (q := q3) hcl (q0 := 0) hrec, fun U hU hW => ⟨rfl, by rw [hU], by rw [hU]; exact hPc, KN.warm hW hKN, hDc.weaken (fun _ _ _ _ => trivial)⟩⟩ rfl rfl hl.1 rfl (lv_room hsum) d hroom) hS (fun q _ h => hFc q h) hFc (fun r2 u t H1 locs1 ht hvm hw hB hz1 hk1 hS1 => ?_)
  subst hw
  obtain ⟨hP1, hD1⟩ := hB
  rw [ht] at hP1
  exact kk H1 locs1 ls hP1 (hD1.weaken (fun k9 q9 _ h9 => hFc q9.1 h9)) hS1 hl
theorem x_GVl {Γ : Ctx} {cc : ByteArray} {nL k n pc pc' : Nat} {own : String} {R0 : Room} {lv : List (Nat × Value)} {st st0 : List Value} {ws ws' : va_W} (B : CX Γ cc nL own R0) {y : MethodName} {index maxL : Nat} {bytes : ByteArray} {r : Int64} {rm : Room} {b : Addr} (As : List Value) {w w' wr : va_W} (hM : ML Γ.l Γ.D Γ.cs y bytes maxL rm (.ref b :: As) w r w') (isC isR is : List Nat) (hC : isC.map (fun i => ws[i]?) = w.map some) (hcn : va_nd isC = true) (hRr : isR.map (fun i => ws[i]?) = wr.map some) (hrn : va_nd isR = true) (hdis : ∀ i ∈ isR, i ∉ isC) (hN : is.map (fun i => (wr ++ w')[i]?) = ws'.map some) (hn2 : va_nd is = true) {ci : Nat} {fs : List Value} {q3 : vw_C} (hrec : (w : va_W)[0]? = some (b, .inr (ci, fs))) (hcl : vwCl[ci]? = some q3) (hg : GoodIn GW (wsV own index q3.1 y (.code y bytes maxL (some .long) :: GW))) (hcc : y.cls = q3.1) (hd : y.cls ≠ "java/lang/invoke/MethodHandle" ∧ y.cls ≠ "java/lang/invoke/VarHandle" ∧ (parseMethodDescriptor y.desc).map (fun d => d.parameters.length) = some As.length) (hR : rm.frames + 1 ≤ R0.frames ∧ 8 + (maxL + 11) + rm.locals ≤ R0.locals) (hroom : k + rm.cells ≤ R0.cells ∧ n + rm.slots ≤ R0.slots) (hstk : st0 = As.reverse ++ .ref b :: st) (hsum : (st.map fun v => v.category).sum ≤ 8) (d : decode cc pc = .ok (.invokevirtual index, 3)) (hp : pc + 3 = pc') (kk : X Γ nL (k + rm.cells) (n + rm.slots) pc' lv (.long r :: st) ws') : X Γ nL k n pc lv st0 ws := by
  obtain ⟨p, l, e, R, s, m, args, below, meth, c, Q, A, D, cs⟩ := Γ
  subst hp
  subst hstk
  obtain ⟨hfix, hKN, hA, hlk, rfl⟩ := B
  intro H locs ls hP hD hS hl
  have hPc : va_P D vwCl w H := hP.sub isC (fm_of hC)
  have hDc : va_D A w := hD.sub isC hcn hC
  have hFc := va_free hD hS hA isC hC
  refine va_calll (va_runV (As := As) (rest := st) hfix (hM H.size) (cwV As.length hfix.2.2.2.2 hg rfl rfl rfl ⟨hcc, hd⟩ hR) ⟨pr_blind _ _ _ _ _, va_recv hKN.1 hPc (q := q3) hcl (q0 := 0) hrec, fun U hU hW => ⟨rfl, by rw [hU], by rw [hU]; exact hPc, KN.warm hW hKN, hDc.weaken (fun _ _ _ _ => trivial)⟩⟩ rfl rfl hl.1 rfl (lv_room hsum) d hroom) hS (fun q _ h => hFc q h) hFc (fun r2 u t H1 locs1 ht hvm hw hB hz1 hk1 hS1 => ?_)
  subst hw
  obtain ⟨hP1, hD1⟩ := hB
  rw [ht] at hP1
  obtain ⟨hP2, hD2⟩ := va_join hP hD isC isR hC hRr hrn hdis hk1 hFc hP1 hD1
  exact kk H1 locs1 ls (hP2.sub is (fm_of hN)) (hD2.sub is hn2 hN) hS1 hl
theorem x_selfVl {Γ : Ctx} {cc : ByteArray} {nL k n pc pc' : Nat} {own : String} {R0 : Room} {lv : List (Nat × Value)} {st st0 : List Value} {ws ws' : va_W} (B : CX Γ cc nL own R0) {y : MethodName} {index maxL : Nat} {bytes : ByteArray} {r : Int64} {rm : Room} {b : Addr} (As : List Value) (hM : ML Γ.l Γ.D Γ.cs y bytes maxL rm (.ref b :: As) ws r ws') {ci : Nat} {fs : List Value} {q3 : vw_C} (hrec : (ws : va_W)[0]? = some (b, .inr (ci, fs))) (hcl : vwCl[ci]? = some q3) (hg : GoodIn GW (wsV own index q3.1 y (.code y bytes maxL (some .long) :: GW))) (hcc : y.cls = q3.1) (hd : y.cls ≠ "java/lang/invoke/MethodHandle" ∧ y.cls ≠ "java/lang/invoke/VarHandle" ∧ (parseMethodDescriptor y.desc).map (fun d => d.parameters.length) = some As.length) (hR : rm.frames + 1 ≤ R0.frames ∧ 8 + (maxL + 11) + rm.locals ≤ R0.locals) (hroom : k + rm.cells ≤ R0.cells ∧ n + rm.slots ≤ R0.slots) (hstk : st0 = As.reverse ++ .ref b :: st) (hsum : (st.map fun v => v.category).sum ≤ 8) (d : decode cc pc = .ok (.invokevirtual index, 3)) (hp : pc + 3 = pc') (kk : X Γ nL (k + rm.cells) (n + rm.slots) pc' lv (.long r :: st) ws') : X Γ nL k n pc lv st0 ws := by
  obtain ⟨p, l, e, R, s, m, args, below, meth, c, Q, A, D, cs⟩ := Γ
  subst hp
  subst hstk
  obtain ⟨hfix, hKN, hA, hlk, rfl⟩ := B
  intro H locs ls hP hD hS hl
  have hPc : va_P D vwCl ws H := hP
  have hDc : va_D A ws := hD
  have hFc : ∀ q, va_A ws H.size q → A q := fun q h => h.elim (fun ⟨k9, e9, h9⟩ => hD.2 k9 (q, e9) h9) (fun h9 => hA q (Nat.le_trans hS.1 h9))
  refine va_calll (va_runV (As := As) (rest := st) hfix (hM H.size) (cwV As.length hfix.2.2.2.2 hg rfl rfl rfl ⟨hcc, hd⟩ hR) ⟨pr_blind _ _ _ _ _, va_recv hKN.1 hPc (q := q3) hcl (q0 := 0) hrec, fun U hU hW => ⟨rfl, by rw [hU], by rw [hU]; exact hPc, KN.warm hW hKN, hDc.weaken (fun _ _ _ _ => trivial)⟩⟩ rfl rfl hl.1 rfl (lv_room hsum) d hroom) hS (fun q _ h => hFc q h) hFc (fun r2 u t H1 locs1 ht hvm hw hB hz1 hk1 hS1 => ?_)
  subst hw
  obtain ⟨hP1, hD1⟩ := hB
  rw [ht] at hP1
  exact kk H1 locs1 ls hP1 (hD1.weaken (fun k9 q9 _ h9 => hFc q9.1 h9)) hS1 hl
theorem x_GVv {Γ : Ctx} {cc : ByteArray} {nL k n pc pc' : Nat} {own : String} {R0 : Room} {lv : List (Nat × Value)} {st st0 : List Value} {ws ws' : va_W} (B : CX Γ cc nL own R0) {y : MethodName} {index maxL : Nat} {bytes : ByteArray} {rm : Room} {b : Addr} (As : List Value) {w w' wr : va_W} (hM : MV Γ.l Γ.D Γ.cs y bytes maxL rm (.ref b :: As) w w') (isC isR is : List Nat) (hC : isC.map (fun i => ws[i]?) = w.map some) (hcn : va_nd isC = true) (hRr : isR.map (fun i => ws[i]?) = wr.map some) (hrn : va_nd isR = true) (hdis : ∀ i ∈ isR, i ∉ isC) (hN : is.map (fun i => (wr ++ w')[i]?) = ws'.map some) (hn2 : va_nd is = true) {ci : Nat} {fs : List Value} {q3 : vw_C} (hrec : (w : va_W)[0]? = some (b, .inr (ci, fs))) (hcl : vwCl[ci]? = some q3) (hg : GoodIn GW (wsV own index q3.1 y (.code y bytes maxL none :: GW))) (hcc : y.cls = q3.1) (hd : y.cls ≠ "java/lang/invoke/MethodHandle" ∧ y.cls ≠ "java/lang/invoke/VarHandle" ∧ (parseMethodDescriptor y.desc).map (fun d => d.parameters.length) = some As.length) (hR : rm.frames + 1 ≤ R0.frames ∧ 8 + (maxL + 11) + rm.locals ≤ R0.locals) (hroom : k + rm.cells ≤ R0.cells ∧ n + rm.slots ≤ R0.slots) (hstk : st0 = As.reverse ++ .ref b :: st) (hsum : (st.map fun v => v.category).sum ≤ 8) (d : decode cc pc = .ok (.invokevirtual index, 3)) (hp : pc + 3 = pc') (kk : X Γ nL (k + rm.cells) (n + rm.slots) pc' lv (st) ws') : X Γ nL k n pc lv st0 ws := by
  obtain ⟨p, l, e, R, s, m, args, below, meth, c, Q, A, D, cs⟩ := Γ
  subst hp
  subst hstk
  obtain ⟨hfix, hKN, hA, hlk, rfl⟩ := B
  intro H locs ls hP hD hS hl
  have hPc : va_P D vwCl w H := hP.sub isC (fm_of hC)
  have hDc : va_D A w := hD.sub isC hcn hC
  have hFc := va_free hD hS hA isC hC
  refine va_callv (va_runV (As := As) (rest := st) hfix (hM H.size) (cwV As.length hfix.2.2.2.2 hg rfl rfl rfl ⟨hcc, hd⟩ hR) ⟨pr_blind _ _ _ _ _, va_recv hKN.1 hPc (q := q3) hcl (q0 := 0) hrec, fun U hU hW => ⟨rfl, by rw [hU], by rw [hU]; exact hPc, KN.warm hW hKN, hDc.weaken (fun _ _ _ _ => trivial)⟩⟩ rfl rfl hl.1 rfl (lv_room hsum) d hroom) hS (fun q _ h => hFc q h) hFc (fun u t H1 locs1 ht hvm hw hB hz1 hk1 hS1 => ?_)
  obtain ⟨hP1, hD1⟩ := hB
  rw [ht] at hP1
  obtain ⟨hP2, hD2⟩ := va_join hP hD isC isR hC hRr hrn hdis hk1 hFc hP1 hD1
  exact kk H1 locs1 ls (hP2.sub is (fm_of hN)) (hD2.sub is hn2 hN) hS1 hl
theorem x_selfVv {Γ : Ctx} {cc : ByteArray} {nL k n pc pc' : Nat} {own : String} {R0 : Room} {lv : List (Nat × Value)} {st st0 : List Value} {ws ws' : va_W} (B : CX Γ cc nL own R0) {y : MethodName} {index maxL : Nat} {bytes : ByteArray} {rm : Room} {b : Addr} (As : List Value) (hM : MV Γ.l Γ.D Γ.cs y bytes maxL rm (.ref b :: As) ws ws') {ci : Nat} {fs : List Value} {q3 : vw_C} (hrec : (ws : va_W)[0]? = some (b, .inr (ci, fs))) (hcl : vwCl[ci]? = some q3) (hg : GoodIn GW (wsV own index q3.1 y (.code y bytes maxL none :: GW))) (hcc : y.cls = q3.1) (hd : y.cls ≠ "java/lang/invoke/MethodHandle" ∧ y.cls ≠ "java/lang/invoke/VarHandle" ∧ (parseMethodDescriptor y.desc).map (fun d => d.parameters.length) = some As.length) (hR : rm.frames + 1 ≤ R0.frames ∧ 8 + (maxL + 11) + rm.locals ≤ R0.locals) (hroom : k + rm.cells ≤ R0.cells ∧ n + rm.slots ≤ R0.slots) (hstk : st0 = As.reverse ++ .ref b :: st) (hsum : (st.map fun v => v.category).sum ≤ 8) (d : decode cc pc = .ok (.invokevirtual index, 3)) (hp : pc + 3 = pc') (kk : X Γ nL (k + rm.cells) (n + rm.slots) pc' lv (st) ws') : X Γ nL k n pc lv st0 ws := by
  obtain ⟨p, l, e, R, s, m, args, below, meth, c, Q, A, D, cs⟩ := Γ
  subst hp
  subst hstk
  obtain ⟨hfix, hKN, hA, hlk, rfl⟩ := B
  intro H locs ls hP hD hS hl
  have hPc : va_P D vwCl ws H := hP
  have hDc : va_D A ws := hD
  have hFc : ∀ q, va_A ws H.size q → A q := fun q h => h.elim (fun ⟨k9, e9, h9⟩ => hD.2 k9 (q, e9) h9) (fun h9 => hA q (Nat.le_trans hS.1 h9))
  refine va_callv (va_runV (As := As) (rest := st) hfix (hM H.size) (cwV As.length hfix.2.2.2.2 hg rfl rfl rfl ⟨hcc, hd⟩ hR) ⟨pr_blind _ _ _ _ _, va_recv hKN.1 hPc (q := q3) hcl (q0 := 0) hrec, fun U hU hW => ⟨rfl, by rw [hU], by rw [hU]; exact hPc, KN.warm hW hKN, hDc.weaken (fun _ _ _ _ => trivial)⟩⟩ rfl rfl hl.1 rfl (lv_room hsum) d hroom) hS (fun q _ h => hFc q h) hFc (fun u t H1 locs1 ht hvm hw hB hz1 hk1 hS1 => ?_)
  obtain ⟨hP1, hD1⟩ := hB
  rw [ht] at hP1
  exact kk H1 locs1 ls hP1 (hD1.weaken (fun k9 q9 _ h9 => hFc q9.1 h9)) hS1 hl
theorem x_GSi {Γ : Ctx} {cc : ByteArray} {nL k n pc pc' : Nat} {own : String} {R0 : Room} {lv : List (Nat × Value)} {st st0 : List Value} {ws ws' : va_W} (B : CX Γ cc nL own R0) {y : MethodName} {index maxL : Nat} {bytes : ByteArray} {rt : FieldType} {r : Int32} {rm : Room} (As : List Value) {w w' wr : va_W} (hM : MI Γ.l Γ.D Γ.cs y bytes maxL rt rm As w r w') (isC isR is : List Nat) (hC : isC.map (fun i => ws[i]?) = w.map some) (hcn : va_nd isC = true) (hRr : isR.map (fun i => ws[i]?) = wr.map some) (hrn : va_nd isR = true) (hdis : ∀ i ∈ isR, i ∉ isC) (hN : is.map (fun i => (wr ++ w')[i]?) = ws'.map some) (hn2 : va_nd is = true) (hg : GoodIn GW (va_wsS own index y (.code y bytes maxL (some rt) :: GW))) (hd : y.cls ≠ "java/lang/invoke/MethodHandle" ∧ y.cls ≠ "java/lang/invoke/VarHandle" ∧ (parseMethodDescriptor y.desc).map (fun d => d.parameters.length) = some As.length) (hR : rm.frames + 1 ≤ R0.frames ∧ 8 + (maxL + 11) + rm.locals ≤ R0.locals) (hroom : k + rm.cells ≤ R0.cells ∧ n + rm.slots ≤ R0.slots) (hstk : st0 = As.reverse ++ st) (hsum : (st.map fun v => v.category).sum ≤ 8) (d : decode cc pc = .ok (.invokestatic index, 3)) (hp : pc + 3 = pc') (kk : X Γ nL (k + rm.cells) (n + rm.slots) pc' lv (.int r :: st) ws') : X Γ nL k n pc lv st0 ws := by
  obtain ⟨p, l, e, R, s, m, args, below, meth, c, Q, A, D, cs⟩ := Γ
  subst hp
  subst hstk
  obtain ⟨hfix, hKN, hA, hlk, rfl⟩ := B
  intro H locs ls hP hD hS hl
  have hPc : va_P D vwCl w H := hP.sub isC (fm_of hC)
  have hDc : va_D A w := hD.sub isC hcn hC
  have hFc := va_free hD hS hA isC hC
  refine va_calli (va_runS (As := As) (rest := st) hfix (hM H.size) (va_cwS As.length hfix.2.2.2.2 hg rfl rfl rfl hd hR) ⟨pr_blind _ _ _ _ _, fun U hU hW => ⟨rfl, by rw [hU], by rw [hU]; exact hPc, KN.warm hW hKN, hDc.weaken (fun _ _ _ _ => trivial)⟩⟩ rfl rfl hl.1 rfl (lv_room hsum) d hroom) hS (fun q _ h => hFc q h) hFc (fun r2 u t H1 locs1 ht hvm hw hB hz1 hk1 hS1 => ?_)
  subst hw
  obtain ⟨hP1, hD1⟩ := hB
  rw [ht] at hP1
  obtain ⟨hP2, hD2⟩ := va_join hP hD isC isR hC hRr hrn hdis hk1 hFc hP1 hD1
  exact kk H1 locs1 ls (hP2.sub is (fm_of hN)) (hD2.sub is hn2 hN) hS1 hl
theorem x_pureSi {Γ : Ctx} {cc : ByteArray} {nL k n pc pc' : Nat} {own : String} {R0 : Room} {lv : List (Nat × Value)} {st st0 : List Value} {ws ws' : va_W} (B : CX Γ cc nL own R0) {y : MethodName} {index maxL : Nat} {bytes : ByteArray} {rt : FieldType} {r : Int32} {rm : Room} (As : List Value) (hM : MI Γ.l Γ.D Γ.cs y bytes maxL rt rm As [] r []) (hg : GoodIn GW (va_wsS own index y (.code y bytes maxL (some rt) :: GW))) (hd : y.cls ≠ "java/lang/invoke/MethodHandle" ∧ y.cls ≠ "java/lang/invoke/VarHandle" ∧ (parseMethodDescriptor y.desc).map (fun d => d.parameters.length) = some As.length) (hR : rm.frames + 1 ≤ R0.frames ∧ 8 + (maxL + 11) + rm.locals ≤ R0.locals) (hroom : k + rm.cells ≤ R0.cells ∧ n + rm.slots ≤ R0.slots) (hstk : st0 = As.reverse ++ st) (hsum : (st.map fun v => v.category).sum ≤ 8) (d : decode cc pc = .ok (.invokestatic index, 3)) (hp : pc + 3 = pc') (kk : X Γ nL (k + rm.cells) (n + rm.slots) pc' lv (.int r :: st) ws) : X Γ nL k n pc lv st0 ws := by
  obtain ⟨p, l, e, R, s, m, args, below, meth, c, Q, A, D, cs⟩ := Γ
  subst hp
  subst hstk
  obtain ⟨hfix, hKN, hA, hlk, rfl⟩ := B
  intro H locs ls hP hD hS hl
  have hPc : va_P D vwCl [] H := fun k9 q9 h9 => by simp at h9
  have hDc : va_D A [] := ⟨fun i j p9 q9 h9 => by simp at h9, fun k9 q9 h9 => by simp at h9⟩
  have hFc : ∀ q, va_A [] H.size q → A q := fun q h => h.elim (fun ⟨k9, e9, h9⟩ => by simp at h9) (fun h9 => hA q (Nat.le_trans hS.1 h9))
  refine va_calli (va_runS (As := As) (rest := st) hfix (hM H.size) (va_cwS As.length hfix.2.2.2.2 hg rfl rfl rfl hd hR) ⟨pr_blind _ _ _ _ _, fun U hU hW => ⟨rfl, by rw [hU], by rw [hU]; exact hPc, KN.warm hW hKN, hDc.weaken (fun _ _ _ _ => trivial)⟩⟩ rfl rfl hl.1 rfl (lv_room hsum) d hroom) hS (fun q _ h => hFc q h) hFc (fun r2 u t H1 locs1 ht hvm hw hB hz1 hk1 hS1 => ?_)
  subst hw
  obtain ⟨hP1, hD1⟩ := hB
  rw [ht] at hP1
  exact kk H1 locs1 ls (hP.kept (fun k9 q9 h9 => hk1 q9.1 (hP k9 q9 h9).lt (fun h8 => h8.elim (fun ⟨k8, e8, h7⟩ => by simp at h7) (fun h7 => Nat.lt_irrefl _ (Nat.lt_of_lt_of_le (hP k9 q9 h9).lt h7))))) hD hS1 hl
theorem x_GSl {Γ : Ctx} {cc : ByteArray} {nL k n pc pc' : Nat} {own : String} {R0 : Room} {lv : List (Nat × Value)} {st st0 : List Value} {ws ws' : va_W} (B : CX Γ cc nL own R0) {y : MethodName} {index maxL : Nat} {bytes : ByteArray} {r : Int64} {rm : Room} (As : List Value) {w w' wr : va_W} (hM : ML Γ.l Γ.D Γ.cs y bytes maxL rm As w r w') (isC isR is : List Nat) (hC : isC.map (fun i => ws[i]?) = w.map some) (hcn : va_nd isC = true) (hRr : isR.map (fun i => ws[i]?) = wr.map some) (hrn : va_nd isR = true) (hdis : ∀ i ∈ isR, i ∉ isC) (hN : is.map (fun i => (wr ++ w')[i]?) = ws'.map some) (hn2 : va_nd is = true) (hg : GoodIn GW (va_wsS own index y (.code y bytes maxL (some .long) :: GW))) (hd : y.cls ≠ "java/lang/invoke/MethodHandle" ∧ y.cls ≠ "java/lang/invoke/VarHandle" ∧ (parseMethodDescriptor y.desc).map (fun d => d.parameters.length) = some As.length) (hR : rm.frames + 1 ≤ R0.frames ∧ 8 + (maxL + 11) + rm.locals ≤ R0.locals) (hroom : k + rm.cells ≤ R0.cells ∧ n + rm.slots ≤ R0.slots) (hstk : st0 = As.reverse ++ st) (hsum : (st.map fun v => v.category).sum ≤ 8) (d : decode cc pc = .ok (.invokestatic index, 3)) (hp : pc + 3 = pc') (kk : X Γ nL (k + rm.cells) (n + rm.slots) pc' lv (.long r :: st) ws') : X Γ nL k n pc lv st0 ws := by
  obtain ⟨p, l, e, R, s, m, args, below, meth, c, Q, A, D, cs⟩ := Γ
  subst hp
  subst hstk
  obtain ⟨hfix, hKN, hA, hlk, rfl⟩ := B
  intro H locs ls hP hD hS hl
  have hPc : va_P D vwCl w H := hP.sub isC (fm_of hC)
  have hDc : va_D A w := hD.sub isC hcn hC
  have hFc := va_free hD hS hA isC hC
  refine va_calll (va_runS (As := As) (rest := st) hfix (hM H.size) (va_cwS As.length hfix.2.2.2.2 hg rfl rfl rfl hd hR) ⟨pr_blind _ _ _ _ _, fun U hU hW => ⟨rfl, by rw [hU], by rw [hU]; exact hPc, KN.warm hW hKN, hDc.weaken (fun _ _ _ _ => trivial)⟩⟩ rfl rfl hl.1 rfl (lv_room hsum) d hroom) hS (fun q _ h => hFc q h) hFc (fun r2 u t H1 locs1 ht hvm hw hB hz1 hk1 hS1 => ?_)
  subst hw
  obtain ⟨hP1, hD1⟩ := hB
  rw [ht] at hP1
  obtain ⟨hP2, hD2⟩ := va_join hP hD isC isR hC hRr hrn hdis hk1 hFc hP1 hD1
  exact kk H1 locs1 ls (hP2.sub is (fm_of hN)) (hD2.sub is hn2 hN) hS1 hl
theorem x_pureSl {Γ : Ctx} {cc : ByteArray} {nL k n pc pc' : Nat} {own : String} {R0 : Room} {lv : List (Nat × Value)} {st st0 : List Value} {ws ws' : va_W} (B : CX Γ cc nL own R0) {y : MethodName} {index maxL : Nat} {bytes : ByteArray} {r : Int64} {rm : Room} (As : List Value) (hM : ML Γ.l Γ.D Γ.cs y bytes maxL rm As [] r []) (hg : GoodIn GW (va_wsS own index y (.code y bytes maxL (some .long) :: GW))) (hd : y.cls ≠ "java/lang/invoke/MethodHandle" ∧ y.cls ≠ "java/lang/invoke/VarHandle" ∧ (parseMethodDescriptor y.desc).map (fun d => d.parameters.length) = some As.length) (hR : rm.frames + 1 ≤ R0.frames ∧ 8 + (maxL + 11) + rm.locals ≤ R0.locals) (hroom : k + rm.cells ≤ R0.cells ∧ n + rm.slots ≤ R0.slots) (hstk : st0 = As.reverse ++ st) (hsum : (st.map fun v => v.category).sum ≤ 8) (d : decode cc pc = .ok (.invokestatic index, 3)) (hp : pc + 3 = pc') (kk : X Γ nL (k + rm.cells) (n + rm.slots) pc' lv (.long r :: st) ws) : X Γ nL k n pc lv st0 ws := by
  obtain ⟨p, l, e, R, s, m, args, below, meth, c, Q, A, D, cs⟩ := Γ
  subst hp
  subst hstk
  obtain ⟨hfix, hKN, hA, hlk, rfl⟩ := B
  intro H locs ls hP hD hS hl
  have hPc : va_P D vwCl [] H := fun k9 q9 h9 => by simp at h9
  have hDc : va_D A [] := ⟨fun i j p9 q9 h9 => by simp at h9, fun k9 q9 h9 => by simp at h9⟩
  have hFc : ∀ q, va_A [] H.size q → A q := fun q h => h.elim (fun ⟨k9, e9, h9⟩ => by simp at h9) (fun h9 => hA q (Nat.le_trans hS.1 h9))
  refine va_calll (va_runS (As := As) (rest := st) hfix (hM H.size) (va_cwS As.length hfix.2.2.2.2 hg rfl rfl rfl hd hR) ⟨pr_blind _ _ _ _ _, fun U hU hW => ⟨rfl, by rw [hU], by rw [hU]; exact hPc, KN.warm hW hKN, hDc.weaken (fun _ _ _ _ => trivial)⟩⟩ rfl rfl hl.1 rfl (lv_room hsum) d hroom) hS (fun q _ h => hFc q h) hFc (fun r2 u t H1 locs1 ht hvm hw hB hz1 hk1 hS1 => ?_)
  subst hw
  obtain ⟨hP1, hD1⟩ := hB
  rw [ht] at hP1
  exact kk H1 locs1 ls (hP.kept (fun k9 q9 h9 => hk1 q9.1 (hP k9 q9 h9).lt (fun h8 => h8.elim (fun ⟨k8, e8, h7⟩ => by simp at h7) (fun h7 => Nat.lt_irrefl _ (Nat.lt_of_lt_of_le (hP k9 q9 h9).lt h7))))) hD hS1 hl
theorem x_GSv {Γ : Ctx} {cc : ByteArray} {nL k n pc pc' : Nat} {own : String} {R0 : Room} {lv : List (Nat × Value)} {st st0 : List Value} {ws ws' : va_W} (B : CX Γ cc nL own R0) {y : MethodName} {index maxL : Nat} {bytes : ByteArray} {rm : Room} (As : List Value) {w w' wr : va_W} (hM : MV Γ.l Γ.D Γ.cs y bytes maxL rm As w w') (isC isR is : List Nat) (hC : isC.map (fun i => ws[i]?) = w.map some) (hcn : va_nd isC = true) (hRr : isR.map (fun i => ws[i]?) = wr.map some) (hrn : va_nd isR = true) (hdis : ∀ i ∈ isR, i ∉ isC) (hN : is.map (fun i => (wr ++ w')[i]?) = ws'.map some) (hn2 : va_nd is = true) (hg : GoodIn GW (va_wsS own index y (.code y bytes maxL none :: GW))) (hd : y.cls ≠ "java/lang/invoke/MethodHandle" ∧ y.cls ≠ "java/lang/invoke/VarHandle" ∧ (parseMethodDescriptor y.desc).map (fun d => d.parameters.length) = some As.length) (hR : rm.frames + 1 ≤ R0.frames ∧ 8 + (maxL + 11) + rm.locals ≤ R0.locals) (hroom : k + rm.cells ≤ R0.cells ∧ n + rm.slots ≤ R0.slots) (hstk : st0 = As.reverse ++ st) (hsum : (st.map fun v => v.category).sum ≤ 8) (d : decode cc pc = .ok (.invokestatic index, 3)) (hp : pc + 3 = pc') (kk : X Γ nL (k + rm.cells) (n + rm.slots) pc' lv (st) ws') : X Γ nL k n pc lv st0 ws := by
  obtain ⟨p, l, e, R, s, m, args, below, meth, c, Q, A, D, cs⟩ := Γ
  subst hp
  subst hstk
  obtain ⟨hfix, hKN, hA, hlk, rfl⟩ := B
  intro H locs ls hP hD hS hl
  have hPc : va_P D vwCl w H := hP.sub isC (fm_of hC)
  have hDc : va_D A w := hD.sub isC hcn hC
  have hFc := va_free hD hS hA isC hC
  refine va_callv (va_runS (As := As) (rest := st) hfix (hM H.size) (va_cwS As.length hfix.2.2.2.2 hg rfl rfl rfl hd hR) ⟨pr_blind _ _ _ _ _, fun U hU hW => ⟨rfl, by rw [hU], by rw [hU]; exact hPc, KN.warm hW hKN, hDc.weaken (fun _ _ _ _ => trivial)⟩⟩ rfl rfl hl.1 rfl (lv_room hsum) d hroom) hS (fun q _ h => hFc q h) hFc (fun u t H1 locs1 ht hvm hw hB hz1 hk1 hS1 => ?_)
  obtain ⟨hP1, hD1⟩ := hB
  rw [ht] at hP1
  obtain ⟨hP2, hD2⟩ := va_join hP hD isC isR hC hRr hrn hdis hk1 hFc hP1 hD1
  exact kk H1 locs1 ls (hP2.sub is (fm_of hN)) (hD2.sub is hn2 hN) hS1 hl
theorem x_pureSv {Γ : Ctx} {cc : ByteArray} {nL k n pc pc' : Nat} {own : String} {R0 : Room} {lv : List (Nat × Value)} {st st0 : List Value} {ws ws' : va_W} (B : CX Γ cc nL own R0) {y : MethodName} {index maxL : Nat} {bytes : ByteArray} {rm : Room} (As : List Value) (hM : MV Γ.l Γ.D Γ.cs y bytes maxL rm As [] []) (hg : GoodIn GW (va_wsS own index y (.code y bytes maxL none :: GW))) (hd : y.cls ≠ "java/lang/invoke/MethodHandle" ∧ y.cls ≠ "java/lang/invoke/VarHandle" ∧ (parseMethodDescriptor y.desc).map (fun d => d.parameters.length) = some As.length) (hR : rm.frames + 1 ≤ R0.frames ∧ 8 + (maxL + 11) + rm.locals ≤ R0.locals) (hroom : k + rm.cells ≤ R0.cells ∧ n + rm.slots ≤ R0.slots) (hstk : st0 = As.reverse ++ st) (hsum : (st.map fun v => v.category).sum ≤ 8) (d : decode cc pc = .ok (.invokestatic index, 3)) (hp : pc + 3 = pc') (kk : X Γ nL (k + rm.cells) (n + rm.slots) pc' lv (st) ws) : X Γ nL k n pc lv st0 ws := by
  obtain ⟨p, l, e, R, s, m, args, below, meth, c, Q, A, D, cs⟩ := Γ
  subst hp
  subst hstk
  obtain ⟨hfix, hKN, hA, hlk, rfl⟩ := B
  intro H locs ls hP hD hS hl
  have hPc : va_P D vwCl [] H := fun k9 q9 h9 => by simp at h9
  have hDc : va_D A [] := ⟨fun i j p9 q9 h9 => by simp at h9, fun k9 q9 h9 => by simp at h9⟩
  have hFc : ∀ q, va_A [] H.size q → A q := fun q h => h.elim (fun ⟨k9, e9, h9⟩ => by simp at h9) (fun h9 => hA q (Nat.le_trans hS.1 h9))
  refine va_callv (va_runS (As := As) (rest := st) hfix (hM H.size) (va_cwS As.length hfix.2.2.2.2 hg rfl rfl rfl hd hR) ⟨pr_blind _ _ _ _ _, fun U hU hW => ⟨rfl, by rw [hU], by rw [hU]; exact hPc, KN.warm hW hKN, hDc.weaken (fun _ _ _ _ => trivial)⟩⟩ rfl rfl hl.1 rfl (lv_room hsum) d hroom) hS (fun q _ h => hFc q h) hFc (fun u t H1 locs1 ht hvm hw hB hz1 hk1 hS1 => ?_)
  obtain ⟨hP1, hD1⟩ := hB
  rw [ht] at hP1
  exact kk H1 locs1 ls (hP.kept (fun k9 q9 h9 => hk1 q9.1 (hP k9 q9 h9).lt (fun h8 => h8.elim (fun ⟨k8, e8, h7⟩ => by simp at h7) (fun h7 => Nat.lt_irrefl _ (Nat.lt_of_lt_of_le (hP k9 q9 h9).lt h7))))) hD hS1 hl
theorem x_GSNi {Γ : Ctx} {cc : ByteArray} {nL k n pc pc' : Nat} {own : String} {R0 : Room} {lv : List (Nat × Value)} {st st0 : List Value} {ws ws' : va_W} (B : CX Γ cc nL own R0) {y : MethodName} {index maxL : Nat} {bytes : ByteArray} {rt : FieldType} {r : Int32} {rm : Room} (As : List Value) {w w' wr : va_W} (hM : MI Γ.l Γ.D Γ.cs y bytes maxL rt rm As w r w') (isC isR is : List Nat) (hC : isC.map (fun i => ws[i]?) = w.map some) (hcn : va_nd isC = true) (hRr : isR.map (fun i => ws[i]?) = wr.map some) (hrn : va_nd isR = true) (hdis : ∀ i ∈ isR, i ∉ isC) (hN : is.map (fun i => (wr ++ w')[i]?) = ws'.map some) (hn2 : va_nd is = true) {host : String} (hnw : Cond.methodLinkNest own index y host ∈ nestW) (hg : GoodIn GW ([.static y, .initialized y.cls, .code y bytes maxL (some rt)] ++ GW)) (hd : y.cls ≠ "java/lang/invoke/MethodHandle" ∧ y.cls ≠ "java/lang/invoke/VarHandle" ∧ (parseMethodDescriptor y.desc).map (fun d => d.parameters.length) = some As.length) (hR : rm.frames + 1 ≤ R0.frames ∧ 8 + (maxL + 11) + rm.locals ≤ R0.locals) (hroom : k + rm.cells ≤ R0.cells ∧ n + rm.slots ≤ R0.slots) (hstk : st0 = As.reverse ++ st) (hsum : (st.map fun v => v.category).sum ≤ 8) (d : decode cc pc = .ok (.invokestatic index, 3)) (hp : pc + 3 = pc') (kk : X Γ nL (k + rm.cells) (n + rm.slots) pc' lv (.int r :: st) ws') : X Γ nL k n pc lv st0 ws := by
  obtain ⟨p, l, e, R, s, m, args, below, meth, c, Q, A, D, cs⟩ := Γ
  subst hp
  subst hstk
  obtain ⟨hfix, hKN, hA, hlk, rfl⟩ := B
  intro H locs ls hP hD hS hl
  have hPc : va_P D vwCl w H := hP.sub isC (fm_of hC)
  have hDc : va_D A w := hD.sub isC hcn hC
  have hFc := va_free hD hS hA isC hC
  have ok9 := fun (w : Cond) (h : w ∈ _) => hfix.2.2.2.2 w (hg w h).1
  refine va_calli (va_runSN (As := As) (rest := st) hfix (hM H.size) ⟨va_cnB As.length hfix.2.2.2.2 (fun w h => hg w (List.mem_append_right [_, _] h)) rfl rfl rfl (hKN.2 _ hnw) (ok9 _ (by simp)) hd hR, ok9 _ (by simp), trivial⟩ ⟨pr_blind _ _ _ _ _, fun U hU hW => ⟨rfl, by rw [hU], by rw [hU]; exact hPc, KN.warm hW hKN, hDc.weaken (fun _ _ _ _ => trivial)⟩⟩ rfl rfl hl.1 rfl (lv_room hsum) d hroom) hS (fun q _ h => hFc q h) hFc (fun r2 u t H1 locs1 ht hvm hw hB hz1 hk1 hS1 => ?_)
  subst hw
  obtain ⟨hP1, hD1⟩ := hB
  rw [ht] at hP1
  obtain ⟨hP2, hD2⟩ := va_join hP hD isC isR hC hRr hrn hdis hk1 hFc hP1 hD1
  exact kk H1 locs1 ls (hP2.sub is (fm_of hN)) (hD2.sub is hn2 hN) hS1 hl
theorem x_GSNl {Γ : Ctx} {cc : ByteArray} {nL k n pc pc' : Nat} {own : String} {R0 : Room} {lv : List (Nat × Value)} {st st0 : List Value} {ws ws' : va_W} (B : CX Γ cc nL own R0) {y : MethodName} {index maxL : Nat} {bytes : ByteArray} {r : Int64} {rm : Room} (As : List Value) {w w' wr : va_W} (hM : ML Γ.l Γ.D Γ.cs y bytes maxL rm As w r w') (isC isR is : List Nat) (hC : isC.map (fun i => ws[i]?) = w.map some) (hcn : va_nd isC = true) (hRr : isR.map (fun i => ws[i]?) = wr.map some) (hrn : va_nd isR = true) (hdis : ∀ i ∈ isR, i ∉ isC) (hN : is.map (fun i => (wr ++ w')[i]?) = ws'.map some) (hn2 : va_nd is = true) {host : String} (hnw : Cond.methodLinkNest own index y host ∈ nestW) (hg : GoodIn GW ([.static y, .initialized y.cls, .code y bytes maxL (some .long)] ++ GW)) (hd : y.cls ≠ "java/lang/invoke/MethodHandle" ∧ y.cls ≠ "java/lang/invoke/VarHandle" ∧ (parseMethodDescriptor y.desc).map (fun d => d.parameters.length) = some As.length) (hR : rm.frames + 1 ≤ R0.frames ∧ 8 + (maxL + 11) + rm.locals ≤ R0.locals) (hroom : k + rm.cells ≤ R0.cells ∧ n + rm.slots ≤ R0.slots) (hstk : st0 = As.reverse ++ st) (hsum : (st.map fun v => v.category).sum ≤ 8) (d : decode cc pc = .ok (.invokestatic index, 3)) (hp : pc + 3 = pc') (kk : X Γ nL (k + rm.cells) (n + rm.slots) pc' lv (.long r :: st) ws') : X Γ nL k n pc lv st0 ws := by
  obtain ⟨p, l, e, R, s, m, args, below, meth, c, Q, A, D, cs⟩ := Γ
  subst hp
  subst hstk
  obtain ⟨hfix, hKN, hA, hlk, rfl⟩ := B
  intro H locs ls hP hD hS hl
  have hPc : va_P D vwCl w H := hP.sub isC (fm_of hC)
  have hDc : va_D A w := hD.sub isC hcn hC
  have hFc := va_free hD hS hA isC hC
  have ok9 := fun (w : Cond) (h : w ∈ _) => hfix.2.2.2.2 w (hg w h).1
  refine va_calll (va_runSN (As := As) (rest := st) hfix (hM H.size) ⟨va_cnB As.length hfix.2.2.2.2 (fun w h => hg w (List.mem_append_right [_, _] h)) rfl rfl rfl (hKN.2 _ hnw) (ok9 _ (by simp)) hd hR, ok9 _ (by simp), trivial⟩ ⟨pr_blind _ _ _ _ _, fun U hU hW => ⟨rfl, by rw [hU], by rw [hU]; exact hPc, KN.warm hW hKN, hDc.weaken (fun _ _ _ _ => trivial)⟩⟩ rfl rfl hl.1 rfl (lv_room hsum) d hroom) hS (fun q _ h => hFc q h) hFc (fun r2 u t H1 locs1 ht hvm hw hB hz1 hk1 hS1 => ?_)
  subst hw
  obtain ⟨hP1, hD1⟩ := hB
  rw [ht] at hP1
  obtain ⟨hP2, hD2⟩ := va_join hP hD isC isR hC hRr hrn hdis hk1 hFc hP1 hD1
  exact kk H1 locs1 ls (hP2.sub is (fm_of hN)) (hD2.sub is hn2 hN) hS1 hl
theorem x_GSNv {Γ : Ctx} {cc : ByteArray} {nL k n pc pc' : Nat} {own : String} {R0 : Room} {lv : List (Nat × Value)} {st st0 : List Value} {ws ws' : va_W} (B : CX Γ cc nL own R0) {y : MethodName} {index maxL : Nat} {bytes : ByteArray} {rm : Room} (As : List Value) {w w' wr : va_W} (hM : MV Γ.l Γ.D Γ.cs y bytes maxL rm As w w') (isC isR is : List Nat) (hC : isC.map (fun i => ws[i]?) = w.map some) (hcn : va_nd isC = true) (hRr : isR.map (fun i => ws[i]?) = wr.map some) (hrn : va_nd isR = true) (hdis : ∀ i ∈ isR, i ∉ isC) (hN : is.map (fun i => (wr ++ w')[i]?) = ws'.map some) (hn2 : va_nd is = true) {host : String} (hnw : Cond.methodLinkNest own index y host ∈ nestW) (hg : GoodIn GW ([.static y, .initialized y.cls, .code y bytes maxL none] ++ GW)) (hd : y.cls ≠ "java/lang/invoke/MethodHandle" ∧ y.cls ≠ "java/lang/invoke/VarHandle" ∧ (parseMethodDescriptor y.desc).map (fun d => d.parameters.length) = some As.length) (hR : rm.frames + 1 ≤ R0.frames ∧ 8 + (maxL + 11) + rm.locals ≤ R0.locals) (hroom : k + rm.cells ≤ R0.cells ∧ n + rm.slots ≤ R0.slots) (hstk : st0 = As.reverse ++ st) (hsum : (st.map fun v => v.category).sum ≤ 8) (d : decode cc pc = .ok (.invokestatic index, 3)) (hp : pc + 3 = pc') (kk : X Γ nL (k + rm.cells) (n + rm.slots) pc' lv (st) ws') : X Γ nL k n pc lv st0 ws := by
  obtain ⟨p, l, e, R, s, m, args, below, meth, c, Q, A, D, cs⟩ := Γ
  subst hp
  subst hstk
  obtain ⟨hfix, hKN, hA, hlk, rfl⟩ := B
  intro H locs ls hP hD hS hl
  have hPc : va_P D vwCl w H := hP.sub isC (fm_of hC)
  have hDc : va_D A w := hD.sub isC hcn hC
  have hFc := va_free hD hS hA isC hC
  have ok9 := fun (w : Cond) (h : w ∈ _) => hfix.2.2.2.2 w (hg w h).1
  refine va_callv (va_runSN (As := As) (rest := st) hfix (hM H.size) ⟨va_cnB As.length hfix.2.2.2.2 (fun w h => hg w (List.mem_append_right [_, _] h)) rfl rfl rfl (hKN.2 _ hnw) (ok9 _ (by simp)) hd hR, ok9 _ (by simp), trivial⟩ ⟨pr_blind _ _ _ _ _, fun U hU hW => ⟨rfl, by rw [hU], by rw [hU]; exact hPc, KN.warm hW hKN, hDc.weaken (fun _ _ _ _ => trivial)⟩⟩ rfl rfl hl.1 rfl (lv_room hsum) d hroom) hS (fun q _ h => hFc q h) hFc (fun u t H1 locs1 ht hvm hw hB hz1 hk1 hS1 => ?_)
  obtain ⟨hP1, hD1⟩ := hB
  rw [ht] at hP1
  obtain ⟨hP2, hD2⟩ := va_join hP hD isC isR hC hRr hrn hdis hk1 hFc hP1 hD1
  exact kk H1 locs1 ls (hP2.sub is (fm_of hN)) (hD2.sub is hn2 hN) hS1 hl
end ROWS3
end
section
theorem dX2_valueAt_0 : decode cX2_valueAt 0 = .ok (.iload_n 1, 1) := by decide +kernel
theorem dX2_valueAt_1 : decode cX2_valueAt 1 = .ok (.ifCond .lt 15, 3) := by decide +kernel
theorem dX2_valueAt_4 : decode cX2_valueAt 4 = .ok (.iload_n 1, 1) := by decide +kernel
theorem dX2_valueAt_5 : decode cX2_valueAt 5 = .ok (.aload_n 0, 1) := by decide +kernel
theorem dX2_valueAt_6 : decode cX2_valueAt 6 = .ok (.arraylength, 1) := by decide +kernel
theorem dX2_valueAt_7 : decode cX2_valueAt 7 = .ok (.if_icmp .ge 9, 3) := by decide +kernel
theorem dX2_valueAt_10 : decode cX2_valueAt 10 = .ok (.aload_n 0, 1) := by decide +kernel
theorem dX2_valueAt_11 : decode cX2_valueAt 11 = .ok (.iload_n 1, 1) := by decide +kernel
theorem dX2_valueAt_12 : decode cX2_valueAt 12 = .ok (.iaload, 1) := by decide +kernel
theorem dX2_valueAt_13 : decode cX2_valueAt 13 = .ok (.goto 4, 3) := by decide +kernel
theorem dX2_valueAt_16 : decode cX2_valueAt 16 = .ok (.iconst (-1), 1) := by decide +kernel
theorem dX2_valueAt_17 : decode cX2_valueAt 17 = .ok (.ireturn, 1) := by decide +kernel
theorem dX2_putAt_0 : decode cX2_putAt 0 = .ok (.iload_n 1, 1) := by decide +kernel
theorem dX2_putAt_1 : decode cX2_putAt 1 = .ok (.ifCond .lt 13, 3) := by decide +kernel
theorem dX2_putAt_4 : decode cX2_putAt 4 = .ok (.iload_n 1, 1) := by decide +kernel
theorem dX2_putAt_5 : decode cX2_putAt 5 = .ok (.aload_n 0, 1) := by decide +kernel
theorem dX2_putAt_6 : decode cX2_putAt 6 = .ok (.arraylength, 1) := by decide +kernel
theorem dX2_putAt_7 : decode cX2_putAt 7 = .ok (.if_icmp .ge 7, 3) := by decide +kernel
theorem dX2_putAt_10 : decode cX2_putAt 10 = .ok (.aload_n 0, 1) := by decide +kernel
theorem dX2_putAt_11 : decode cX2_putAt 11 = .ok (.iload_n 1, 1) := by decide +kernel
theorem dX2_putAt_12 : decode cX2_putAt 12 = .ok (.iload_n 2, 1) := by decide +kernel
theorem dX2_putAt_13 : decode cX2_putAt 13 = .ok (.iastore, 1) := by decide +kernel
theorem dX2_putAt_14 : decode cX2_putAt 14 = .ok (.return_, 1) := by decide +kernel
abbrev OB : Type := (Nat → Int32) × (Nat → Nat → Int32)
abbrev MO : Type := (Nat → Int32) × (Nat → Nat → Int32) × Int64
abbrev BO : Type := (Nat → Int32) × OB × (Nat → OB) × OB
def wS (cA : ClassId) (a : Nat → Nat) (S : OB) : va_W := [(a 0, .inr (1, [.ref (a 1), .ref (a 2), .ref (a 3), .ref (a 4), .int (S.1 4), .ref (a 5), .ref (a 6), .int (S.1 7), .int (S.1 8), .int (S.1 9), .int (S.1 10), .int (S.1 11), .int (S.1 12), .int (S.1 13)])), (a 1, .inl (cA, 32, .inl (S.2 0))), (a 2, .inl (cA, 32, .inl (S.2 1))), (a 3, .inl (cA, 32, .inl (S.2 2))), (a 4, .inl (cA, 32, .inl (S.2 3))), (a 5, .inl (cA, 10, .inl (S.2 5))), (a 6, .inl (cA, 10, .inl (S.2 6)))]
def wT (cA : ClassId) (a : Nat → Nat) (S : OB) : va_W := [(a 0, .inr (0, [.ref (a 1), .int (S.1 1)])), (a 1, .inl (cA, 60, .inl (S.2 0)))]
def wM (cA : ClassId) (a : Nat → Nat) (S : MO) : va_W := [(a 0, .inr (3, [.int (S.1 0), .ref (a 1), .int (S.1 2), .ref (a 2), .int (S.1 4), .int (S.1 5), .int (S.1 6), .int (S.1 7), .int (S.1 8), .long S.2.2])), (a 1, .inl (cA, 1085, .inl (S.2.1 1))), (a 2, .inl (cA, 60, .inl (S.2.1 3)))]
def wB (cs : CS) (a : Nat → Nat → Nat) (S : BO) : va_W := (a 0 0, .inr (2, [.ref (a 1 0), .ref (a 0 1), .int (S.1 2), .int (S.1 3), .ref (a 2 0)])) :: (a 0 1, .inl (cs.2.2, 6, .inr (.inr (.inr (.inr (fun i => some (a (3 + i) 0))))))) :: (wS cs.1 (a 1) S.2.1 ++ (wT cs.1 (a 2) S.2.2.2 ++ (wS cs.1 (a 3) (S.2.2.1 0) ++ (wS cs.1 (a 4) (S.2.2.1 1) ++ (wS cs.1 (a 5) (S.2.2.1 2) ++ (wS cs.1 (a 6) (S.2.2.1 3) ++ (wS cs.1 (a 7) (S.2.2.1 4) ++ wS cs.1 (a 8) (S.2.2.1 5))))))))
theorem wf_RX2_10 : Cond.fieldLink RX2 10 "DictationBelt" "now" "LDictationBelt$State;" ∈ GW := List.mem_of_getElem? (i := 16) (by decide +kernel)
theorem wf_RX2_16 : Cond.fieldLink RX2 16 "DictationBelt" "saved" "[LDictationBelt$State;" ∈ GW := List.mem_of_getElem? (i := 17) (by decide +kernel)
theorem wf_RX2_20 : Cond.fieldLink RX2 20 "DictationBelt" "nextSlot" "I" ∈ GW := List.mem_of_getElem? (i := 18) (by decide +kernel)
theorem wf_RX2_24 : Cond.fieldLink RX2 24 "DictationBelt" "savedCount" "I" ∈ GW := List.mem_of_getElem? (i := 19) (by decide +kernel)
theorem wf_RX2_30 : Cond.fieldLink RX2 30 "DictationBelt" "text" "LDictationBelt$OrderText;" ∈ GW := List.mem_of_getElem? (i := 23) (by decide +kernel)
theorem wf_RX1_9 : Cond.fieldLink RX1 9 "DictationBelt$State" "owners" "[I" ∈ GW := List.mem_of_getElem? (i := 29) (by decide +kernel)
theorem wf_RX1_15 : Cond.fieldLink RX1 15 "DictationBelt$State" "sounds" "[I" ∈ GW := List.mem_of_getElem? (i := 30) (by decide +kernel)
theorem wf_RX1_18 : Cond.fieldLink RX1 18 "DictationBelt$State" "carbons" "[I" ∈ GW := List.mem_of_getElem? (i := 31) (by decide +kernel)
theorem wf_RX1_21 : Cond.fieldLink RX1 21 "DictationBelt$State" "order" "[I" ∈ GW := List.mem_of_getElem? (i := 32) (by decide +kernel)
theorem wf_RX1_24 : Cond.fieldLink RX1 24 "DictationBelt$State" "used" "I" ∈ GW := List.mem_of_getElem? (i := 33) (by decide +kernel)
theorem wf_RX1_28 : Cond.fieldLink RX1 28 "DictationBelt$State" "flags" "[I" ∈ GW := List.mem_of_getElem? (i := 34) (by decide +kernel)
theorem wf_RX1_31 : Cond.fieldLink RX1 31 "DictationBelt$State" "losses" "[I" ∈ GW := List.mem_of_getElem? (i := 35) (by decide +kernel)
theorem wf_RX1_34 : Cond.fieldLink RX1 34 "DictationBelt$State" "count" "I" ∈ GW := List.mem_of_getElem? (i := 36) (by decide +kernel)
theorem wf_RX1_37 : Cond.fieldLink RX1 37 "DictationBelt$State" "isRunning" "Z" ∈ GW := List.mem_of_getElem? (i := 37) (by decide +kernel)
theorem wf_RX1_41 : Cond.fieldLink RX1 41 "DictationBelt$State" "head" "I" ∈ GW := List.mem_of_getElem? (i := 38) (by decide +kernel)
theorem wf_RX1_44 : Cond.fieldLink RX1 44 "DictationBelt$State" "spoken" "I" ∈ GW := List.mem_of_getElem? (i := 39) (by decide +kernel)
theorem wf_RX1_47 : Cond.fieldLink RX1 47 "DictationBelt$State" "gone" "I" ∈ GW := List.mem_of_getElem? (i := 40) (by decide +kernel)
theorem wf_RX1_50 : Cond.fieldLink RX1 50 "DictationBelt$State" "player" "I" ∈ GW := List.mem_of_getElem? (i := 41) (by decide +kernel)
theorem wf_RX1_53 : Cond.fieldLink RX1 53 "DictationBelt$State" "place" "I" ∈ GW := List.mem_of_getElem? (i := 42) (by decide +kernel)
theorem wf_RX0_9 : Cond.fieldLink RX0 9 "DictationBelt$OrderText" "codes" "[I" ∈ GW := List.mem_of_getElem? (i := 47) (by decide +kernel)
theorem wf_RX0_15 : Cond.fieldLink RX0 15 "DictationBelt$OrderText" "length" "I" ∈ GW := List.mem_of_getElem? (i := 48) (by decide +kernel)
theorem wf_RX3_7 : Cond.fieldLink RX3 7 "DictationBeltModel" "s" "[I" ∈ GW := List.mem_of_getElem? (i := 53) (by decide +kernel)
theorem wf_RX3_13 : Cond.fieldLink RX3 13 "DictationBeltModel" "text" "[I" ∈ GW := List.mem_of_getElem? (i := 54) (by decide +kernel)
theorem wf_RX3_16 : Cond.fieldLink RX3 16 "DictationBeltModel" "thrown" "I" ∈ GW := List.mem_of_getElem? (i := 126) (by decide +kernel)
theorem wf_RX3_53 : Cond.fieldLink RX3 53 "DictationBeltModel" "saved" "I" ∈ GW := List.mem_of_getElem? (i := 131) (by decide +kernel)
theorem wf_RX2_52 : Cond.fieldLink RX2 52 "DictationBelt$State" "isRunning" "Z" ∈ GW := List.mem_of_getElem? (i := 159) (by decide +kernel)
theorem wf_RX2_96 : Cond.fieldLink RX2 96 "DictationBelt$State" "head" "I" ∈ GW := List.mem_of_getElem? (i := 308) (by decide +kernel)
theorem wf_RX2_99 : Cond.fieldLink RX2 99 "DictationBelt$State" "count" "I" ∈ GW := List.mem_of_getElem? (i := 323) (by decide +kernel)
theorem wf_RX2_112 : Cond.fieldLink RX2 112 "DictationBelt$State" "sounds" "[I" ∈ GW := List.mem_of_getElem? (i := 368) (by decide +kernel)
theorem wf_RX2_123 : Cond.fieldLink RX2 123 "DictationBelt$State" "losses" "[I" ∈ GW := List.mem_of_getElem? (i := 419) (by decide +kernel)
theorem wf_RX2_126 : Cond.fieldLink RX2 126 "DictationBelt$State" "owners" "[I" ∈ GW := List.mem_of_getElem? (i := 431) (by decide +kernel)
theorem wf_RX2_129 : Cond.fieldLink RX2 129 "DictationBelt$State" "used" "I" ∈ GW := List.mem_of_getElem? (i := 440) (by decide +kernel)
theorem wf_RX2_132 : Cond.fieldLink RX2 132 "DictationBelt$State" "spoken" "I" ∈ GW := List.mem_of_getElem? (i := 449) (by decide +kernel)
theorem wf_RX2_135 : Cond.fieldLink RX2 135 "DictationBelt$State" "gone" "I" ∈ GW := List.mem_of_getElem? (i := 458) (by decide +kernel)
theorem wk_RX2_138 : Cond.constantDouble RX2 138 (4629700416936869888) ∈ GW := List.mem_of_getElem? (i := 467) (by decide +kernel)
theorem wk_RX3_95 : Cond.constantDouble RX3 95 (4629700416936869888) ∈ GW := List.mem_of_getElem? (i := 472) (by decide +kernel)
theorem wf_RX2_157 : Cond.fieldLink RX2 157 "DictationBelt$State" "player" "I" ∈ GW := List.mem_of_getElem? (i := 503) (by decide +kernel)
theorem wf_RX2_160 : Cond.fieldLink RX2 160 "DictationBelt$State" "place" "I" ∈ GW := List.mem_of_getElem? (i := 552) (by decide +kernel)
theorem wf_RX2_167 : Cond.fieldLink RX2 167 "DictationBelt$State" "carbons" "[I" ∈ GW := List.mem_of_getElem? (i := 576) (by decide +kernel)
theorem wf_RX2_187 : Cond.fieldLink RX2 187 "DictationBelt$OrderText" "length" "I" ∈ GW := List.mem_of_getElem? (i := 662) (by decide +kernel)
theorem wf_RX3_115 : Cond.fieldLink RX3 115 "DictationBeltModel" "length" "I" ∈ GW := List.mem_of_getElem? (i := 671) (by decide +kernel)
theorem wf_RX3_118 : Cond.fieldLink RX3 118 "DictationBeltModel" "at" "I" ∈ GW := List.mem_of_getElem? (i := 704) (by decide +kernel)
theorem wf_RX3_124 : Cond.fieldLink RX3 124 "DictationBeltModel" "letter" "I" ∈ GW := List.mem_of_getElem? (i := 713) (by decide +kernel)
theorem wf_RX3_133 : Cond.fieldLink RX3 133 "DictationBeltModel" "second" "I" ∈ GW := List.mem_of_getElem? (i := 714) (by decide +kernel)
theorem wf_RX3_136 : Cond.fieldLink RX3 136 "DictationBeltModel" "first" "I" ∈ GW := List.mem_of_getElem? (i := 715) (by decide +kernel)
theorem wf_RX2_265 : Cond.fieldLink RX2 265 "DictationBelt$OrderText" "codes" "[I" ∈ GW := List.mem_of_getElem? (i := 746) (by decide +kernel)
theorem wk_RX2_216 : Cond.constantLong RX2 216 (4444) ∈ GW := List.mem_of_getElem? (i := 790) (by decide +kernel)
theorem wk_RX2_258 : Cond.constantLong RX2 258 (31) ∈ GW := List.mem_of_getElem? (i := 795) (by decide +kernel)
theorem wf_RX2_255 : Cond.fieldLink RX2 255 "DictationBelt$State" "order" "[I" ∈ GW := List.mem_of_getElem? (i := 810) (by decide +kernel)
theorem wk_RX3_157 : Cond.constantLong RX3 157 (4444) ∈ GW := List.mem_of_getElem? (i := 815) (by decide +kernel)
theorem wf_RX3_153 : Cond.fieldLink RX3 153 "DictationBeltModel" "hash" "J" ∈ GW := List.mem_of_getElem? (i := 816) (by decide +kernel)
theorem wk_RX3_151 : Cond.constantLong RX3 151 (31) ∈ GW := List.mem_of_getElem? (i := 821) (by decide +kernel)
abbrev gv_valueAt_idx : Nat := 119
abbrev gv_putAt_idx : Nat := 163
theorem gs_valueAt : GoodIn GW ([.static yX2_valueAt, .initialized yX2_valueAt.cls, .code yX2_valueAt cX2_valueAt 2 (some .int)] ++ GW) := gw_app [.static yX2_valueAt, .initialized RX2, .code yX2_valueAt cX2_valueAt 2 (some .int)] [78, 2, 79] (by decide +kernel) (by decide +kernel)
theorem gs_RX2_valueAt : GoodIn GW (va_wsS RX2 119 yX2_valueAt (.code yX2_valueAt cX2_valueAt 2 (some .int) :: GW)) := gw_app [.methodLink RX2 119 yX2_valueAt, .static yX2_valueAt, .initialized RX2, .code yX2_valueAt cX2_valueAt 2 (some .int)] [377, 78, 2, 79] (by decide +kernel) (by decide +kernel)
theorem np_valueAt : yX2_valueAt.cls ≠ "java/lang/invoke/MethodHandle" ∧ yX2_valueAt.cls ≠ "java/lang/invoke/VarHandle" ∧ (parseMethodDescriptor yX2_valueAt.desc).map (fun d => d.parameters.length) = some 2 := by decide +kernel
theorem gs_putAt : GoodIn GW ([.static yX2_putAt, .initialized yX2_putAt.cls, .code yX2_putAt cX2_putAt 3 none] ++ GW) := gw_app [.static yX2_putAt, .initialized RX2, .code yX2_putAt cX2_putAt 3 none] [108, 2, 109] (by decide +kernel) (by decide +kernel)
theorem gs_RX2_putAt : GoodIn GW (va_wsS RX2 163 yX2_putAt (.code yX2_putAt cX2_putAt 3 none :: GW)) := gw_app [.methodLink RX2 163 yX2_putAt, .static yX2_putAt, .initialized RX2, .code yX2_putAt cX2_putAt 3 none] [564, 108, 2, 109] (by decide +kernel) (by decide +kernel)
theorem np_putAt : yX2_putAt.cls ≠ "java/lang/invoke/MethodHandle" ∧ yX2_putAt.cls ≠ "java/lang/invoke/VarHandle" ∧ (parseMethodDescriptor yX2_putAt.desc).map (fun d => d.parameters.length) = some 3 := by decide +kernel
abbrev rmL : Room := { frames := 0, cells := 0, slots := 0, locals := 0 }
abbrev wA (cA : ClassId) (h N : Nat) (f : Nat → Int32) : va_W := [(h, .inl (cA, N, .inl f))]
set_option maxHeartbeats 4000000 in
theorem c_valueAt (l : Launch) (D : va_G) (cs : CS) (N : Nat) (hN : N < 2 ^ 31) (h : Nat) (i : Int32) (f : Nat → Int32) : MI l D cs yX2_valueAt cX2_valueAt 2 .int rmL [.ref h, .int i] (wA cs.1 h N f) (vAt N f i) (wA cs.1 h N f) := by
  refine MI_of (by decide) (Nat.le_of_ble_eq_true rfl) ?_
  rintro Γ rfl rfl rfl B ret
  show X Γ 2 0 0 0 [(0, .ref h), (1, .int i)] [] (wA Γ.cs.1 h N f)
  refine x_iload_n B (pc' := 1) 1 dX2_valueAt_0 rfl rfl rfl ?_
  refine x_if_lt B 16 4 dX2_valueAt_1 (by decide) rfl (fun h1 => ?_) (fun h1 => ?_)
  · refine x_iconst B (pc' := 17) (-1) dX2_valueAt_16 (by decide) rfl ?_
    rw [show (-1 : Int32) = vAt N f i by rw [vAt, if_pos h1]]
    exact ret rfl (Nat.zero_le _) (Nat.zero_le _) dX2_valueAt_17
  · refine x_iload_n B (pc' := 5) 1 dX2_valueAt_4 rfl rfl rfl ?_
    refine x_aload_n B (pc' := 6) 0 dX2_valueAt_5 rfl rfl rfl ?_
    refine x_alen B (pc' := 7) (nI N) 0 rfl rfl dX2_valueAt_6 rfl ?_
    refine x_icmp_ge B 16 10 dX2_valueAt_7 (by decide) rfl (fun h2 => ?_) (fun h2 => ?_)
    · refine x_iconst B (pc' := 17) (-1) dX2_valueAt_16 (by decide) rfl ?_
      rw [show (-1 : Int32) = vAt N f i by rw [vAt, if_neg h1, if_pos h2]]
      exact ret rfl (Nat.zero_le _) (Nat.zero_le _) dX2_valueAt_17
    · have h3 : vp_in i N := by
        rcases pk_ix i hN with q | q | ⟨j, q1, q2⟩
        · exact absurd q h1
        · exact absurd q h2
        · rw [q2]; exact vp_in_nI q1 hN
      refine x_aload_n B (pc' := 11) 0 dX2_valueAt_10 rfl rfl rfl ?_
      refine x_iload_n B (pc' := 12) 1 dX2_valueAt_11 rfl rfl rfl ?_
      refine x_iald B (pc' := 13) 0 rfl h3 dX2_valueAt_12 rfl ?_
      refine x_goto B (pc' := 17) dX2_valueAt_13 (by decide) ?_
      rw [show f i.toNatClampNeg = vAt N f i by rw [vAt, if_neg h1, if_neg h2]]
      exact ret rfl (Nat.zero_le _) (Nat.zero_le _) dX2_valueAt_17
set_option maxHeartbeats 4000000 in
theorem c_putAt (l : Launch) (D : va_G) (cs : CS) (N : Nat) (hN : N < 2 ^ 31) (h : Nat) (i v : Int32) (f : Nat → Int32) : MV l D cs yX2_putAt cX2_putAt 3 rmL [.ref h, .int i, .int v] (wA cs.1 h N f) (wA cs.1 h N (pAt N f i v)) := by
  refine MV_of (by decide) (Nat.le_of_ble_eq_true rfl) ?_
  rintro Γ rfl rfl rfl B ret
  show X Γ 3 0 0 0 [(0, .ref h), (1, .int i), (2, .int v)] [] (wA Γ.cs.1 h N f)
  refine x_iload_n B (pc' := 1) 1 dX2_putAt_0 rfl rfl rfl ?_
  refine x_if_lt B 14 4 dX2_putAt_1 (by decide) rfl (fun h1 => ?_) (fun h1 => ?_)
  · rw [show f = pAt N f i v by rw [pAt, if_pos h1]]
    exact ret (Nat.zero_le _) (Nat.zero_le _) dX2_putAt_14
  · refine x_iload_n B (pc' := 5) 1 dX2_putAt_4 rfl rfl rfl ?_
    refine x_aload_n B (pc' := 6) 0 dX2_putAt_5 rfl rfl rfl ?_
    refine x_alen B (pc' := 7) (nI N) 0 rfl rfl dX2_putAt_6 rfl ?_
    refine x_icmp_ge B 14 10 dX2_putAt_7 (by decide) rfl (fun h2 => ?_) (fun h2 => ?_)
    · rw [show f = pAt N f i v by rw [pAt, if_neg h1, if_pos h2]]
      exact ret (Nat.zero_le _) (Nat.zero_le _) dX2_putAt_14
    · have h3 : vp_in i N := by
        rcases pk_ix i hN with q | q | ⟨j, q1, q2⟩
        · exact absurd q h1
        · exact absurd q h2
        · rw [q2]; exact vp_in_nI q1 hN
      refine x_aload_n B (pc' := 11) 0 dX2_putAt_10 rfl rfl rfl ?_
      refine x_iload_n B (pc' := 12) 1 dX2_putAt_11 rfl rfl rfl ?_
      refine x_iload_n B (pc' := 13) 2 dX2_putAt_12 rfl rfl rfl ?_
      refine x_iast (ws' := wA Γ.cs.1 h N (pAt N f i v)) B (pc' := 14) 0 rfl h3 (by rw [pAt, if_neg h1, if_neg h2]; rfl) dX2_putAt_13 rfl ?_
      exact ret (Nat.zero_le _) (Nat.zero_le _) dX2_putAt_14
theorem s_get4 {Γ : Ctx} {cc : ByteArray} {nL k n pc pc' : Nat} {own : String} {R0 : Room} {lv : List (Nat × Value)} {st : List Value} {index : Nat} {a : Nat → Nat} {S : OB} (B : CX Γ cc nL own R0) (hw : Cond.fieldLink own index "DictationBelt$State" "used" "I" ∈ GW) (d : decode cc pc = .ok (.getfield index, 3)) (hp : pc + 3 = pc') (kk : X Γ nL k n pc' lv (.int (S.1 4) :: st) (wS Γ.cs.1 a S)) : X Γ nL k n pc lv (.ref (a 0) :: st) (wS Γ.cs.1 a S) :=
  x_getf B 0 4 rfl rfl inlX1 (by decide) hw rfl d hp kk
theorem s_put4 {Γ : Ctx} {cc : ByteArray} {nL k n pc pc' : Nat} {own : String} {R0 : Room} {lv : List (Nat × Value)} {st : List Value} {index : Nat} {a : Nat → Nat} {S : OB} {v : Int32} (B : CX Γ cc nL own R0) (hw : Cond.fieldLink own index "DictationBelt$State" "used" "I" ∈ GW) (d : decode cc pc = .ok (.putfield index, 3)) (hp : pc + 3 = pc') (kk : X Γ nL k n pc' lv st (wS Γ.cs.1 a (upd S.1 4 v, S.2))) : X Γ nL k n pc lv (.int v :: .ref (a 0) :: st) (wS Γ.cs.1 a S) :=
  x_putf B 0 4 tyX1 tyX1_ok nmX1 rfl rfl inlX1 (by decide) hw rfl rfl rfl (Nat.le_of_ble_eq_true rfl) rfl d hp kk
theorem s_get7 {Γ : Ctx} {cc : ByteArray} {nL k n pc pc' : Nat} {own : String} {R0 : Room} {lv : List (Nat × Value)} {st : List Value} {index : Nat} {a : Nat → Nat} {S : OB} (B : CX Γ cc nL own R0) (hw : Cond.fieldLink own index "DictationBelt$State" "count" "I" ∈ GW) (d : decode cc pc = .ok (.getfield index, 3)) (hp : pc + 3 = pc') (kk : X Γ nL k n pc' lv (.int (S.1 7) :: st) (wS Γ.cs.1 a S)) : X Γ nL k n pc lv (.ref (a 0) :: st) (wS Γ.cs.1 a S) :=
  x_getf B 0 7 rfl rfl inlX1 (by decide) hw rfl d hp kk
theorem s_put7 {Γ : Ctx} {cc : ByteArray} {nL k n pc pc' : Nat} {own : String} {R0 : Room} {lv : List (Nat × Value)} {st : List Value} {index : Nat} {a : Nat → Nat} {S : OB} {v : Int32} (B : CX Γ cc nL own R0) (hw : Cond.fieldLink own index "DictationBelt$State" "count" "I" ∈ GW) (d : decode cc pc = .ok (.putfield index, 3)) (hp : pc + 3 = pc') (kk : X Γ nL k n pc' lv st (wS Γ.cs.1 a (upd S.1 7 v, S.2))) : X Γ nL k n pc lv (.int v :: .ref (a 0) :: st) (wS Γ.cs.1 a S) :=
  x_putf B 0 7 tyX1 tyX1_ok nmX1 rfl rfl inlX1 (by decide) hw rfl rfl rfl (Nat.le_of_ble_eq_true rfl) rfl d hp kk
theorem s_get8 {Γ : Ctx} {cc : ByteArray} {nL k n pc pc' : Nat} {own : String} {R0 : Room} {lv : List (Nat × Value)} {st : List Value} {index : Nat} {a : Nat → Nat} {S : OB} (B : CX Γ cc nL own R0) (hw : Cond.fieldLink own index "DictationBelt$State" "isRunning" "Z" ∈ GW) (d : decode cc pc = .ok (.getfield index, 3)) (hp : pc + 3 = pc') (kk : X Γ nL k n pc' lv (.int (S.1 8) :: st) (wS Γ.cs.1 a S)) : X Γ nL k n pc lv (.ref (a 0) :: st) (wS Γ.cs.1 a S) :=
  x_getf B 0 8 rfl rfl inlX1 (by decide) hw rfl d hp kk
theorem s_put8 {Γ : Ctx} {cc : ByteArray} {nL k n pc pc' : Nat} {own : String} {R0 : Room} {lv : List (Nat × Value)} {st : List Value} {index : Nat} {a : Nat → Nat} {S : OB} {v : Int32} (hv : v = 0 ∨ v = 1) (B : CX Γ cc nL own R0) (hw : Cond.fieldLink own index "DictationBelt$State" "isRunning" "Z" ∈ GW) (d : decode cc pc = .ok (.putfield index, 3)) (hp : pc + 3 = pc') (kk : X Γ nL k n pc' lv st (wS Γ.cs.1 a (upd S.1 8 v, S.2))) : X Γ nL k n pc lv (.int v :: .ref (a 0) :: st) (wS Γ.cs.1 a S) :=
  x_putf B 0 8 tyX1 tyX1_ok nmX1 rfl rfl inlX1 (by decide) hw rfl (zb_nar hv) (by rcases hv with rfl | rfl <;> rfl) (Nat.le_of_ble_eq_true rfl) rfl d hp kk
theorem s_get9 {Γ : Ctx} {cc : ByteArray} {nL k n pc pc' : Nat} {own : String} {R0 : Room} {lv : List (Nat × Value)} {st : List Value} {index : Nat} {a : Nat → Nat} {S : OB} (B : CX Γ cc nL own R0) (hw : Cond.fieldLink own index "DictationBelt$State" "head" "I" ∈ GW) (d : decode cc pc = .ok (.getfield index, 3)) (hp : pc + 3 = pc') (kk : X Γ nL k n pc' lv (.int (S.1 9) :: st) (wS Γ.cs.1 a S)) : X Γ nL k n pc lv (.ref (a 0) :: st) (wS Γ.cs.1 a S) :=
  x_getf B 0 9 rfl rfl inlX1 (by decide) hw rfl d hp kk
theorem s_put9 {Γ : Ctx} {cc : ByteArray} {nL k n pc pc' : Nat} {own : String} {R0 : Room} {lv : List (Nat × Value)} {st : List Value} {index : Nat} {a : Nat → Nat} {S : OB} {v : Int32} (B : CX Γ cc nL own R0) (hw : Cond.fieldLink own index "DictationBelt$State" "head" "I" ∈ GW) (d : decode cc pc = .ok (.putfield index, 3)) (hp : pc + 3 = pc') (kk : X Γ nL k n pc' lv st (wS Γ.cs.1 a (upd S.1 9 v, S.2))) : X Γ nL k n pc lv (.int v :: .ref (a 0) :: st) (wS Γ.cs.1 a S) :=
  x_putf B 0 9 tyX1 tyX1_ok nmX1 rfl rfl inlX1 (by decide) hw rfl rfl rfl (Nat.le_of_ble_eq_true rfl) rfl d hp kk
theorem s_get10 {Γ : Ctx} {cc : ByteArray} {nL k n pc pc' : Nat} {own : String} {R0 : Room} {lv : List (Nat × Value)} {st : List Value} {index : Nat} {a : Nat → Nat} {S : OB} (B : CX Γ cc nL own R0) (hw : Cond.fieldLink own index "DictationBelt$State" "spoken" "I" ∈ GW) (d : decode cc pc = .ok (.getfield index, 3)) (hp : pc + 3 = pc') (kk : X Γ nL k n pc' lv (.int (S.1 10) :: st) (wS Γ.cs.1 a S)) : X Γ nL k n pc lv (.ref (a 0) :: st) (wS Γ.cs.1 a S) :=
  x_getf B 0 10 rfl rfl inlX1 (by decide) hw rfl d hp kk
theorem s_put10 {Γ : Ctx} {cc : ByteArray} {nL k n pc pc' : Nat} {own : String} {R0 : Room} {lv : List (Nat × Value)} {st : List Value} {index : Nat} {a : Nat → Nat} {S : OB} {v : Int32} (B : CX Γ cc nL own R0) (hw : Cond.fieldLink own index "DictationBelt$State" "spoken" "I" ∈ GW) (d : decode cc pc = .ok (.putfield index, 3)) (hp : pc + 3 = pc') (kk : X Γ nL k n pc' lv st (wS Γ.cs.1 a (upd S.1 10 v, S.2))) : X Γ nL k n pc lv (.int v :: .ref (a 0) :: st) (wS Γ.cs.1 a S) :=
  x_putf B 0 10 tyX1 tyX1_ok nmX1 rfl rfl inlX1 (by decide) hw rfl rfl rfl (Nat.le_of_ble_eq_true rfl) rfl d hp kk
theorem s_get11 {Γ : Ctx} {cc : ByteArray} {nL k n pc pc' : Nat} {own : String} {R0 : Room} {lv : List (Nat × Value)} {st : List Value} {index : Nat} {a : Nat → Nat} {S : OB} (B : CX Γ cc nL own R0) (hw : Cond.fieldLink own index "DictationBelt$State" "gone" "I" ∈ GW) (d : decode cc pc = .ok (.getfield index, 3)) (hp : pc + 3 = pc') (kk : X Γ nL k n pc' lv (.int (S.1 11) :: st) (wS Γ.cs.1 a S)) : X Γ nL k n pc lv (.ref (a 0) :: st) (wS Γ.cs.1 a S) :=
  x_getf B 0 11 rfl rfl inlX1 (by decide) hw rfl d hp kk
theorem s_put11 {Γ : Ctx} {cc : ByteArray} {nL k n pc pc' : Nat} {own : String} {R0 : Room} {lv : List (Nat × Value)} {st : List Value} {index : Nat} {a : Nat → Nat} {S : OB} {v : Int32} (B : CX Γ cc nL own R0) (hw : Cond.fieldLink own index "DictationBelt$State" "gone" "I" ∈ GW) (d : decode cc pc = .ok (.putfield index, 3)) (hp : pc + 3 = pc') (kk : X Γ nL k n pc' lv st (wS Γ.cs.1 a (upd S.1 11 v, S.2))) : X Γ nL k n pc lv (.int v :: .ref (a 0) :: st) (wS Γ.cs.1 a S) :=
  x_putf B 0 11 tyX1 tyX1_ok nmX1 rfl rfl inlX1 (by decide) hw rfl rfl rfl (Nat.le_of_ble_eq_true rfl) rfl d hp kk
theorem s_get12 {Γ : Ctx} {cc : ByteArray} {nL k n pc pc' : Nat} {own : String} {R0 : Room} {lv : List (Nat × Value)} {st : List Value} {index : Nat} {a : Nat → Nat} {S : OB} (B : CX Γ cc nL own R0) (hw : Cond.fieldLink own index "DictationBelt$State" "player" "I" ∈ GW) (d : decode cc pc = .ok (.getfield index, 3)) (hp : pc + 3 = pc') (kk : X Γ nL k n pc' lv (.int (S.1 12) :: st) (wS Γ.cs.1 a S)) : X Γ nL k n pc lv (.ref (a 0) :: st) (wS Γ.cs.1 a S) :=
  x_getf B 0 12 rfl rfl inlX1 (by decide) hw rfl d hp kk
theorem s_put12 {Γ : Ctx} {cc : ByteArray} {nL k n pc pc' : Nat} {own : String} {R0 : Room} {lv : List (Nat × Value)} {st : List Value} {index : Nat} {a : Nat → Nat} {S : OB} {v : Int32} (B : CX Γ cc nL own R0) (hw : Cond.fieldLink own index "DictationBelt$State" "player" "I" ∈ GW) (d : decode cc pc = .ok (.putfield index, 3)) (hp : pc + 3 = pc') (kk : X Γ nL k n pc' lv st (wS Γ.cs.1 a (upd S.1 12 v, S.2))) : X Γ nL k n pc lv (.int v :: .ref (a 0) :: st) (wS Γ.cs.1 a S) :=
  x_putf B 0 12 tyX1 tyX1_ok nmX1 rfl rfl inlX1 (by decide) hw rfl rfl rfl (Nat.le_of_ble_eq_true rfl) rfl d hp kk
theorem s_get13 {Γ : Ctx} {cc : ByteArray} {nL k n pc pc' : Nat} {own : String} {R0 : Room} {lv : List (Nat × Value)} {st : List Value} {index : Nat} {a : Nat → Nat} {S : OB} (B : CX Γ cc nL own R0) (hw : Cond.fieldLink own index "DictationBelt$State" "place" "I" ∈ GW) (d : decode cc pc = .ok (.getfield index, 3)) (hp : pc + 3 = pc') (kk : X Γ nL k n pc' lv (.int (S.1 13) :: st) (wS Γ.cs.1 a S)) : X Γ nL k n pc lv (.ref (a 0) :: st) (wS Γ.cs.1 a S) :=
  x_getf B 0 13 rfl rfl inlX1 (by decide) hw rfl d hp kk
theorem s_put13 {Γ : Ctx} {cc : ByteArray} {nL k n pc pc' : Nat} {own : String} {R0 : Room} {lv : List (Nat × Value)} {st : List Value} {index : Nat} {a : Nat → Nat} {S : OB} {v : Int32} (B : CX Γ cc nL own R0) (hw : Cond.fieldLink own index "DictationBelt$State" "place" "I" ∈ GW) (d : decode cc pc = .ok (.putfield index, 3)) (hp : pc + 3 = pc') (kk : X Γ nL k n pc' lv st (wS Γ.cs.1 a (upd S.1 13 v, S.2))) : X Γ nL k n pc lv (.int v :: .ref (a 0) :: st) (wS Γ.cs.1 a S) :=
  x_putf B 0 13 tyX1 tyX1_ok nmX1 rfl rfl inlX1 (by decide) hw rfl rfl rfl (Nat.le_of_ble_eq_true rfl) rfl d hp kk
theorem s_ref0 {Γ : Ctx} {cc : ByteArray} {nL k n pc pc' : Nat} {own : String} {R0 : Room} {lv : List (Nat × Value)} {st : List Value} {index : Nat} {a : Nat → Nat} {S : OB} (B : CX Γ cc nL own R0) (hw : Cond.fieldLink own index "DictationBelt$State" "owners" "[I" ∈ GW) (d : decode cc pc = .ok (.getfield index, 3)) (hp : pc + 3 = pc') (kk : X Γ nL k n pc' lv (.ref (a 1) :: st) (wS Γ.cs.1 a S)) : X Γ nL k n pc lv (.ref (a 0) :: st) (wS Γ.cs.1 a S) :=
  x_getf B 0 0 rfl rfl inlX1 (by decide) hw rfl d hp kk
theorem s_ald0 {Γ : Ctx} {cc : ByteArray} {nL k n pc pc' : Nat} {own : String} {R0 : Room} {lv : List (Nat × Value)} {st : List Value} {index : Nat} {a : Nat → Nat} {S : OB} {i : Int32} (B : CX Γ cc nL own R0) (hi : vp_in i 32) (d : decode cc pc = .ok (.iaload, 1)) (hp : pc + 1 = pc') (kk : X Γ nL k n pc' lv (.int (S.2 0 i.toNatClampNeg) :: st) (wS Γ.cs.1 a S)) : X Γ nL k n pc lv (.int i :: .ref (a 1) :: st) (wS Γ.cs.1 a S) :=
  x_iald B 1 rfl hi d hp kk
theorem s_ast0 {Γ : Ctx} {cc : ByteArray} {nL k n pc pc' : Nat} {own : String} {R0 : Room} {lv : List (Nat × Value)} {st : List Value} {index : Nat} {a : Nat → Nat} {S : OB} {i v : Int32} (B : CX Γ cc nL own R0) (hi : vp_in i 32) (d : decode cc pc = .ok (.iastore, 1)) (hp : pc + 1 = pc') (kk : X Γ nL k n pc' lv st (wS Γ.cs.1 a (S.1, up2 S.2 0 (upd (S.2 0) i.toNatClampNeg v)))) : X Γ nL k n pc lv (.int v :: .int i :: .ref (a 1) :: st) (wS Γ.cs.1 a S) :=
  x_iast B 1 rfl hi rfl d hp kk
theorem s_vAt0 {Γ : Ctx} {cc : ByteArray} {nL k n pc pc' : Nat} {R0 : Room} {lv : List (Nat × Value)} {st : List Value} {index : Nat} {a : Nat → Nat} {S : OB} {i : Int32} (B : CX Γ cc nL RX1 R0) (hR : 1 ≤ R0.frames ∧ 21 ≤ R0.locals) (hroom : k ≤ R0.cells ∧ n ≤ R0.slots) (hsum : (st.map fun v => v.category).sum ≤ 8) (hnw : Cond.methodLinkNest RX1 index yX2_valueAt RX2 ∈ nestW) (d : decode cc pc = .ok (.invokestatic index, 3)) (hp : pc + 3 = pc') (kk : X Γ nL k n pc' lv (.int (vAt 32 (S.2 0) i) :: st) (wS Γ.cs.1 a S)) : X Γ nL k n pc lv (.int i :: .ref (a 1) :: st) (wS Γ.cs.1 a S) :=
  x_GSNi (ws' := wS Γ.cs.1 a S) (wr := (wS Γ.cs.1 a S).eraseIdx 1) B [.ref (a 1), .int i] (c_valueAt _ _ _ 32 (by decide) (a 1) i (S.2 0)) [1] [0, 2, 3, 4, 5, 6] [0, 6, 1, 2, 3, 4, 5] rfl rfl rfl rfl (by decide) rfl rfl hnw gs_valueAt np_valueAt hR hroom rfl hsum d hp kk
theorem s_pAt0 {Γ : Ctx} {cc : ByteArray} {nL k n pc pc' : Nat} {R0 : Room} {lv : List (Nat × Value)} {st : List Value} {index : Nat} {a : Nat → Nat} {S : OB} {i v : Int32} (B : CX Γ cc nL RX1 R0) (hR : 1 ≤ R0.frames ∧ 22 ≤ R0.locals) (hroom : k ≤ R0.cells ∧ n ≤ R0.slots) (hsum : (st.map fun v => v.category).sum ≤ 8) (hnw : Cond.methodLinkNest RX1 index yX2_putAt RX2 ∈ nestW) (d : decode cc pc = .ok (.invokestatic index, 3)) (hp : pc + 3 = pc') (kk : X Γ nL k n pc' lv st (wS Γ.cs.1 a (S.1, up2 S.2 0 (pAt 32 (S.2 0) i v)))) : X Γ nL k n pc lv (.int v :: .int i :: .ref (a 1) :: st) (wS Γ.cs.1 a S) :=
  x_GSNv (ws' := wS Γ.cs.1 a (S.1, up2 S.2 0 (pAt 32 (S.2 0) i v))) (wr := (wS Γ.cs.1 a S).eraseIdx 1) B [.ref (a 1), .int i, .int v] (c_putAt _ _ _ 32 (by decide) (a 1) i v (S.2 0)) [1] [0, 2, 3, 4, 5, 6] [0, 6, 1, 2, 3, 4, 5] rfl rfl rfl rfl (by decide) rfl rfl hnw gs_putAt np_putAt hR hroom rfl hsum d hp kk
theorem s_ref1 {Γ : Ctx} {cc : ByteArray} {nL k n pc pc' : Nat} {own : String} {R0 : Room} {lv : List (Nat × Value)} {st : List Value} {index : Nat} {a : Nat → Nat} {S : OB} (B : CX Γ cc nL own R0) (hw : Cond.fieldLink own index "DictationBelt$State" "sounds" "[I" ∈ GW) (d : decode cc pc = .ok (.getfield index, 3)) (hp : pc + 3 = pc') (kk : X Γ nL k n pc' lv (.ref (a 2) :: st) (wS Γ.cs.1 a S)) : X Γ nL k n pc lv (.ref (a 0) :: st) (wS Γ.cs.1 a S) :=
  x_getf B 0 1 rfl rfl inlX1 (by decide) hw rfl d hp kk
theorem s_ald1 {Γ : Ctx} {cc : ByteArray} {nL k n pc pc' : Nat} {own : String} {R0 : Room} {lv : List (Nat × Value)} {st : List Value} {index : Nat} {a : Nat → Nat} {S : OB} {i : Int32} (B : CX Γ cc nL own R0) (hi : vp_in i 32) (d : decode cc pc = .ok (.iaload, 1)) (hp : pc + 1 = pc') (kk : X Γ nL k n pc' lv (.int (S.2 1 i.toNatClampNeg) :: st) (wS Γ.cs.1 a S)) : X Γ nL k n pc lv (.int i :: .ref (a 2) :: st) (wS Γ.cs.1 a S) :=
  x_iald B 2 rfl hi d hp kk
theorem s_ast1 {Γ : Ctx} {cc : ByteArray} {nL k n pc pc' : Nat} {own : String} {R0 : Room} {lv : List (Nat × Value)} {st : List Value} {index : Nat} {a : Nat → Nat} {S : OB} {i v : Int32} (B : CX Γ cc nL own R0) (hi : vp_in i 32) (d : decode cc pc = .ok (.iastore, 1)) (hp : pc + 1 = pc') (kk : X Γ nL k n pc' lv st (wS Γ.cs.1 a (S.1, up2 S.2 1 (upd (S.2 1) i.toNatClampNeg v)))) : X Γ nL k n pc lv (.int v :: .int i :: .ref (a 2) :: st) (wS Γ.cs.1 a S) :=
  x_iast B 2 rfl hi rfl d hp kk
theorem s_vAt1 {Γ : Ctx} {cc : ByteArray} {nL k n pc pc' : Nat} {R0 : Room} {lv : List (Nat × Value)} {st : List Value} {index : Nat} {a : Nat → Nat} {S : OB} {i : Int32} (B : CX Γ cc nL RX1 R0) (hR : 1 ≤ R0.frames ∧ 21 ≤ R0.locals) (hroom : k ≤ R0.cells ∧ n ≤ R0.slots) (hsum : (st.map fun v => v.category).sum ≤ 8) (hnw : Cond.methodLinkNest RX1 index yX2_valueAt RX2 ∈ nestW) (d : decode cc pc = .ok (.invokestatic index, 3)) (hp : pc + 3 = pc') (kk : X Γ nL k n pc' lv (.int (vAt 32 (S.2 1) i) :: st) (wS Γ.cs.1 a S)) : X Γ nL k n pc lv (.int i :: .ref (a 2) :: st) (wS Γ.cs.1 a S) :=
  x_GSNi (ws' := wS Γ.cs.1 a S) (wr := (wS Γ.cs.1 a S).eraseIdx 2) B [.ref (a 2), .int i] (c_valueAt _ _ _ 32 (by decide) (a 2) i (S.2 1)) [2] [0, 1, 3, 4, 5, 6] [0, 1, 6, 2, 3, 4, 5] rfl rfl rfl rfl (by decide) rfl rfl hnw gs_valueAt np_valueAt hR hroom rfl hsum d hp kk
theorem s_pAt1 {Γ : Ctx} {cc : ByteArray} {nL k n pc pc' : Nat} {R0 : Room} {lv : List (Nat × Value)} {st : List Value} {index : Nat} {a : Nat → Nat} {S : OB} {i v : Int32} (B : CX Γ cc nL RX1 R0) (hR : 1 ≤ R0.frames ∧ 22 ≤ R0.locals) (hroom : k ≤ R0.cells ∧ n ≤ R0.slots) (hsum : (st.map fun v => v.category).sum ≤ 8) (hnw : Cond.methodLinkNest RX1 index yX2_putAt RX2 ∈ nestW) (d : decode cc pc = .ok (.invokestatic index, 3)) (hp : pc + 3 = pc') (kk : X Γ nL k n pc' lv st (wS Γ.cs.1 a (S.1, up2 S.2 1 (pAt 32 (S.2 1) i v)))) : X Γ nL k n pc lv (.int v :: .int i :: .ref (a 2) :: st) (wS Γ.cs.1 a S) :=
  x_GSNv (ws' := wS Γ.cs.1 a (S.1, up2 S.2 1 (pAt 32 (S.2 1) i v))) (wr := (wS Γ.cs.1 a S).eraseIdx 2) B [.ref (a 2), .int i, .int v] (c_putAt _ _ _ 32 (by decide) (a 2) i v (S.2 1)) [2] [0, 1, 3, 4, 5, 6] [0, 1, 6, 2, 3, 4, 5] rfl rfl rfl rfl (by decide) rfl rfl hnw gs_putAt np_putAt hR hroom rfl hsum d hp kk
theorem s_ref2 {Γ : Ctx} {cc : ByteArray} {nL k n pc pc' : Nat} {own : String} {R0 : Room} {lv : List (Nat × Value)} {st : List Value} {index : Nat} {a : Nat → Nat} {S : OB} (B : CX Γ cc nL own R0) (hw : Cond.fieldLink own index "DictationBelt$State" "carbons" "[I" ∈ GW) (d : decode cc pc = .ok (.getfield index, 3)) (hp : pc + 3 = pc') (kk : X Γ nL k n pc' lv (.ref (a 3) :: st) (wS Γ.cs.1 a S)) : X Γ nL k n pc lv (.ref (a 0) :: st) (wS Γ.cs.1 a S) :=
  x_getf B 0 2 rfl rfl inlX1 (by decide) hw rfl d hp kk
theorem s_ald2 {Γ : Ctx} {cc : ByteArray} {nL k n pc pc' : Nat} {own : String} {R0 : Room} {lv : List (Nat × Value)} {st : List Value} {index : Nat} {a : Nat → Nat} {S : OB} {i : Int32} (B : CX Γ cc nL own R0) (hi : vp_in i 32) (d : decode cc pc = .ok (.iaload, 1)) (hp : pc + 1 = pc') (kk : X Γ nL k n pc' lv (.int (S.2 2 i.toNatClampNeg) :: st) (wS Γ.cs.1 a S)) : X Γ nL k n pc lv (.int i :: .ref (a 3) :: st) (wS Γ.cs.1 a S) :=
  x_iald B 3 rfl hi d hp kk
theorem s_ast2 {Γ : Ctx} {cc : ByteArray} {nL k n pc pc' : Nat} {own : String} {R0 : Room} {lv : List (Nat × Value)} {st : List Value} {index : Nat} {a : Nat → Nat} {S : OB} {i v : Int32} (B : CX Γ cc nL own R0) (hi : vp_in i 32) (d : decode cc pc = .ok (.iastore, 1)) (hp : pc + 1 = pc') (kk : X Γ nL k n pc' lv st (wS Γ.cs.1 a (S.1, up2 S.2 2 (upd (S.2 2) i.toNatClampNeg v)))) : X Γ nL k n pc lv (.int v :: .int i :: .ref (a 3) :: st) (wS Γ.cs.1 a S) :=
  x_iast B 3 rfl hi rfl d hp kk
theorem s_vAt2 {Γ : Ctx} {cc : ByteArray} {nL k n pc pc' : Nat} {R0 : Room} {lv : List (Nat × Value)} {st : List Value} {index : Nat} {a : Nat → Nat} {S : OB} {i : Int32} (B : CX Γ cc nL RX1 R0) (hR : 1 ≤ R0.frames ∧ 21 ≤ R0.locals) (hroom : k ≤ R0.cells ∧ n ≤ R0.slots) (hsum : (st.map fun v => v.category).sum ≤ 8) (hnw : Cond.methodLinkNest RX1 index yX2_valueAt RX2 ∈ nestW) (d : decode cc pc = .ok (.invokestatic index, 3)) (hp : pc + 3 = pc') (kk : X Γ nL k n pc' lv (.int (vAt 32 (S.2 2) i) :: st) (wS Γ.cs.1 a S)) : X Γ nL k n pc lv (.int i :: .ref (a 3) :: st) (wS Γ.cs.1 a S) :=
  x_GSNi (ws' := wS Γ.cs.1 a S) (wr := (wS Γ.cs.1 a S).eraseIdx 3) B [.ref (a 3), .int i] (c_valueAt _ _ _ 32 (by decide) (a 3) i (S.2 2)) [3] [0, 1, 2, 4, 5, 6] [0, 1, 2, 6, 3, 4, 5] rfl rfl rfl rfl (by decide) rfl rfl hnw gs_valueAt np_valueAt hR hroom rfl hsum d hp kk
theorem s_pAt2 {Γ : Ctx} {cc : ByteArray} {nL k n pc pc' : Nat} {R0 : Room} {lv : List (Nat × Value)} {st : List Value} {index : Nat} {a : Nat → Nat} {S : OB} {i v : Int32} (B : CX Γ cc nL RX1 R0) (hR : 1 ≤ R0.frames ∧ 22 ≤ R0.locals) (hroom : k ≤ R0.cells ∧ n ≤ R0.slots) (hsum : (st.map fun v => v.category).sum ≤ 8) (hnw : Cond.methodLinkNest RX1 index yX2_putAt RX2 ∈ nestW) (d : decode cc pc = .ok (.invokestatic index, 3)) (hp : pc + 3 = pc') (kk : X Γ nL k n pc' lv st (wS Γ.cs.1 a (S.1, up2 S.2 2 (pAt 32 (S.2 2) i v)))) : X Γ nL k n pc lv (.int v :: .int i :: .ref (a 3) :: st) (wS Γ.cs.1 a S) :=
  x_GSNv (ws' := wS Γ.cs.1 a (S.1, up2 S.2 2 (pAt 32 (S.2 2) i v))) (wr := (wS Γ.cs.1 a S).eraseIdx 3) B [.ref (a 3), .int i, .int v] (c_putAt _ _ _ 32 (by decide) (a 3) i v (S.2 2)) [3] [0, 1, 2, 4, 5, 6] [0, 1, 2, 6, 3, 4, 5] rfl rfl rfl rfl (by decide) rfl rfl hnw gs_putAt np_putAt hR hroom rfl hsum d hp kk
theorem s_ref3 {Γ : Ctx} {cc : ByteArray} {nL k n pc pc' : Nat} {own : String} {R0 : Room} {lv : List (Nat × Value)} {st : List Value} {index : Nat} {a : Nat → Nat} {S : OB} (B : CX Γ cc nL own R0) (hw : Cond.fieldLink own index "DictationBelt$State" "order" "[I" ∈ GW) (d : decode cc pc = .ok (.getfield index, 3)) (hp : pc + 3 = pc') (kk : X Γ nL k n pc' lv (.ref (a 4) :: st) (wS Γ.cs.1 a S)) : X Γ nL k n pc lv (.ref (a 0) :: st) (wS Γ.cs.1 a S) :=
  x_getf B 0 3 rfl rfl inlX1 (by decide) hw rfl d hp kk
theorem s_ald3 {Γ : Ctx} {cc : ByteArray} {nL k n pc pc' : Nat} {own : String} {R0 : Room} {lv : List (Nat × Value)} {st : List Value} {index : Nat} {a : Nat → Nat} {S : OB} {i : Int32} (B : CX Γ cc nL own R0) (hi : vp_in i 32) (d : decode cc pc = .ok (.iaload, 1)) (hp : pc + 1 = pc') (kk : X Γ nL k n pc' lv (.int (S.2 3 i.toNatClampNeg) :: st) (wS Γ.cs.1 a S)) : X Γ nL k n pc lv (.int i :: .ref (a 4) :: st) (wS Γ.cs.1 a S) :=
  x_iald B 4 rfl hi d hp kk
theorem s_ast3 {Γ : Ctx} {cc : ByteArray} {nL k n pc pc' : Nat} {own : String} {R0 : Room} {lv : List (Nat × Value)} {st : List Value} {index : Nat} {a : Nat → Nat} {S : OB} {i v : Int32} (B : CX Γ cc nL own R0) (hi : vp_in i 32) (d : decode cc pc = .ok (.iastore, 1)) (hp : pc + 1 = pc') (kk : X Γ nL k n pc' lv st (wS Γ.cs.1 a (S.1, up2 S.2 3 (upd (S.2 3) i.toNatClampNeg v)))) : X Γ nL k n pc lv (.int v :: .int i :: .ref (a 4) :: st) (wS Γ.cs.1 a S) :=
  x_iast B 4 rfl hi rfl d hp kk
theorem s_vAt3 {Γ : Ctx} {cc : ByteArray} {nL k n pc pc' : Nat} {R0 : Room} {lv : List (Nat × Value)} {st : List Value} {index : Nat} {a : Nat → Nat} {S : OB} {i : Int32} (B : CX Γ cc nL RX1 R0) (hR : 1 ≤ R0.frames ∧ 21 ≤ R0.locals) (hroom : k ≤ R0.cells ∧ n ≤ R0.slots) (hsum : (st.map fun v => v.category).sum ≤ 8) (hnw : Cond.methodLinkNest RX1 index yX2_valueAt RX2 ∈ nestW) (d : decode cc pc = .ok (.invokestatic index, 3)) (hp : pc + 3 = pc') (kk : X Γ nL k n pc' lv (.int (vAt 32 (S.2 3) i) :: st) (wS Γ.cs.1 a S)) : X Γ nL k n pc lv (.int i :: .ref (a 4) :: st) (wS Γ.cs.1 a S) :=
  x_GSNi (ws' := wS Γ.cs.1 a S) (wr := (wS Γ.cs.1 a S).eraseIdx 4) B [.ref (a 4), .int i] (c_valueAt _ _ _ 32 (by decide) (a 4) i (S.2 3)) [4] [0, 1, 2, 3, 5, 6] [0, 1, 2, 3, 6, 4, 5] rfl rfl rfl rfl (by decide) rfl rfl hnw gs_valueAt np_valueAt hR hroom rfl hsum d hp kk
theorem s_pAt3 {Γ : Ctx} {cc : ByteArray} {nL k n pc pc' : Nat} {R0 : Room} {lv : List (Nat × Value)} {st : List Value} {index : Nat} {a : Nat → Nat} {S : OB} {i v : Int32} (B : CX Γ cc nL RX1 R0) (hR : 1 ≤ R0.frames ∧ 22 ≤ R0.locals) (hroom : k ≤ R0.cells ∧ n ≤ R0.slots) (hsum : (st.map fun v => v.category).sum ≤ 8) (hnw : Cond.methodLinkNest RX1 index yX2_putAt RX2 ∈ nestW) (d : decode cc pc = .ok (.invokestatic index, 3)) (hp : pc + 3 = pc') (kk : X Γ nL k n pc' lv st (wS Γ.cs.1 a (S.1, up2 S.2 3 (pAt 32 (S.2 3) i v)))) : X Γ nL k n pc lv (.int v :: .int i :: .ref (a 4) :: st) (wS Γ.cs.1 a S) :=
  x_GSNv (ws' := wS Γ.cs.1 a (S.1, up2 S.2 3 (pAt 32 (S.2 3) i v))) (wr := (wS Γ.cs.1 a S).eraseIdx 4) B [.ref (a 4), .int i, .int v] (c_putAt _ _ _ 32 (by decide) (a 4) i v (S.2 3)) [4] [0, 1, 2, 3, 5, 6] [0, 1, 2, 3, 6, 4, 5] rfl rfl rfl rfl (by decide) rfl rfl hnw gs_putAt np_putAt hR hroom rfl hsum d hp kk
theorem s_ref5 {Γ : Ctx} {cc : ByteArray} {nL k n pc pc' : Nat} {own : String} {R0 : Room} {lv : List (Nat × Value)} {st : List Value} {index : Nat} {a : Nat → Nat} {S : OB} (B : CX Γ cc nL own R0) (hw : Cond.fieldLink own index "DictationBelt$State" "flags" "[I" ∈ GW) (d : decode cc pc = .ok (.getfield index, 3)) (hp : pc + 3 = pc') (kk : X Γ nL k n pc' lv (.ref (a 5) :: st) (wS Γ.cs.1 a S)) : X Γ nL k n pc lv (.ref (a 0) :: st) (wS Γ.cs.1 a S) :=
  x_getf B 0 5 rfl rfl inlX1 (by decide) hw rfl d hp kk
theorem s_ald5 {Γ : Ctx} {cc : ByteArray} {nL k n pc pc' : Nat} {own : String} {R0 : Room} {lv : List (Nat × Value)} {st : List Value} {index : Nat} {a : Nat → Nat} {S : OB} {i : Int32} (B : CX Γ cc nL own R0) (hi : vp_in i 10) (d : decode cc pc = .ok (.iaload, 1)) (hp : pc + 1 = pc') (kk : X Γ nL k n pc' lv (.int (S.2 5 i.toNatClampNeg) :: st) (wS Γ.cs.1 a S)) : X Γ nL k n pc lv (.int i :: .ref (a 5) :: st) (wS Γ.cs.1 a S) :=
  x_iald B 5 rfl hi d hp kk
theorem s_ast5 {Γ : Ctx} {cc : ByteArray} {nL k n pc pc' : Nat} {own : String} {R0 : Room} {lv : List (Nat × Value)} {st : List Value} {index : Nat} {a : Nat → Nat} {S : OB} {i v : Int32} (B : CX Γ cc nL own R0) (hi : vp_in i 10) (d : decode cc pc = .ok (.iastore, 1)) (hp : pc + 1 = pc') (kk : X Γ nL k n pc' lv st (wS Γ.cs.1 a (S.1, up2 S.2 5 (upd (S.2 5) i.toNatClampNeg v)))) : X Γ nL k n pc lv (.int v :: .int i :: .ref (a 5) :: st) (wS Γ.cs.1 a S) :=
  x_iast B 5 rfl hi rfl d hp kk
theorem s_vAt5 {Γ : Ctx} {cc : ByteArray} {nL k n pc pc' : Nat} {R0 : Room} {lv : List (Nat × Value)} {st : List Value} {index : Nat} {a : Nat → Nat} {S : OB} {i : Int32} (B : CX Γ cc nL RX1 R0) (hR : 1 ≤ R0.frames ∧ 21 ≤ R0.locals) (hroom : k ≤ R0.cells ∧ n ≤ R0.slots) (hsum : (st.map fun v => v.category).sum ≤ 8) (hnw : Cond.methodLinkNest RX1 index yX2_valueAt RX2 ∈ nestW) (d : decode cc pc = .ok (.invokestatic index, 3)) (hp : pc + 3 = pc') (kk : X Γ nL k n pc' lv (.int (vAt 10 (S.2 5) i) :: st) (wS Γ.cs.1 a S)) : X Γ nL k n pc lv (.int i :: .ref (a 5) :: st) (wS Γ.cs.1 a S) :=
  x_GSNi (ws' := wS Γ.cs.1 a S) (wr := (wS Γ.cs.1 a S).eraseIdx 5) B [.ref (a 5), .int i] (c_valueAt _ _ _ 10 (by decide) (a 5) i (S.2 5)) [5] [0, 1, 2, 3, 4, 6] [0, 1, 2, 3, 4, 6, 5] rfl rfl rfl rfl (by decide) rfl rfl hnw gs_valueAt np_valueAt hR hroom rfl hsum d hp kk
theorem s_pAt5 {Γ : Ctx} {cc : ByteArray} {nL k n pc pc' : Nat} {R0 : Room} {lv : List (Nat × Value)} {st : List Value} {index : Nat} {a : Nat → Nat} {S : OB} {i v : Int32} (B : CX Γ cc nL RX1 R0) (hR : 1 ≤ R0.frames ∧ 22 ≤ R0.locals) (hroom : k ≤ R0.cells ∧ n ≤ R0.slots) (hsum : (st.map fun v => v.category).sum ≤ 8) (hnw : Cond.methodLinkNest RX1 index yX2_putAt RX2 ∈ nestW) (d : decode cc pc = .ok (.invokestatic index, 3)) (hp : pc + 3 = pc') (kk : X Γ nL k n pc' lv st (wS Γ.cs.1 a (S.1, up2 S.2 5 (pAt 10 (S.2 5) i v)))) : X Γ nL k n pc lv (.int v :: .int i :: .ref (a 5) :: st) (wS Γ.cs.1 a S) :=
  x_GSNv (ws' := wS Γ.cs.1 a (S.1, up2 S.2 5 (pAt 10 (S.2 5) i v))) (wr := (wS Γ.cs.1 a S).eraseIdx 5) B [.ref (a 5), .int i, .int v] (c_putAt _ _ _ 10 (by decide) (a 5) i v (S.2 5)) [5] [0, 1, 2, 3, 4, 6] [0, 1, 2, 3, 4, 6, 5] rfl rfl rfl rfl (by decide) rfl rfl hnw gs_putAt np_putAt hR hroom rfl hsum d hp kk
theorem s_ref6 {Γ : Ctx} {cc : ByteArray} {nL k n pc pc' : Nat} {own : String} {R0 : Room} {lv : List (Nat × Value)} {st : List Value} {index : Nat} {a : Nat → Nat} {S : OB} (B : CX Γ cc nL own R0) (hw : Cond.fieldLink own index "DictationBelt$State" "losses" "[I" ∈ GW) (d : decode cc pc = .ok (.getfield index, 3)) (hp : pc + 3 = pc') (kk : X Γ nL k n pc' lv (.ref (a 6) :: st) (wS Γ.cs.1 a S)) : X Γ nL k n pc lv (.ref (a 0) :: st) (wS Γ.cs.1 a S) :=
  x_getf B 0 6 rfl rfl inlX1 (by decide) hw rfl d hp kk
theorem s_ald6 {Γ : Ctx} {cc : ByteArray} {nL k n pc pc' : Nat} {own : String} {R0 : Room} {lv : List (Nat × Value)} {st : List Value} {index : Nat} {a : Nat → Nat} {S : OB} {i : Int32} (B : CX Γ cc nL own R0) (hi : vp_in i 10) (d : decode cc pc = .ok (.iaload, 1)) (hp : pc + 1 = pc') (kk : X Γ nL k n pc' lv (.int (S.2 6 i.toNatClampNeg) :: st) (wS Γ.cs.1 a S)) : X Γ nL k n pc lv (.int i :: .ref (a 6) :: st) (wS Γ.cs.1 a S) :=
  x_iald B 6 rfl hi d hp kk
theorem s_ast6 {Γ : Ctx} {cc : ByteArray} {nL k n pc pc' : Nat} {own : String} {R0 : Room} {lv : List (Nat × Value)} {st : List Value} {index : Nat} {a : Nat → Nat} {S : OB} {i v : Int32} (B : CX Γ cc nL own R0) (hi : vp_in i 10) (d : decode cc pc = .ok (.iastore, 1)) (hp : pc + 1 = pc') (kk : X Γ nL k n pc' lv st (wS Γ.cs.1 a (S.1, up2 S.2 6 (upd (S.2 6) i.toNatClampNeg v)))) : X Γ nL k n pc lv (.int v :: .int i :: .ref (a 6) :: st) (wS Γ.cs.1 a S) :=
  x_iast B 6 rfl hi rfl d hp kk
theorem s_vAt6 {Γ : Ctx} {cc : ByteArray} {nL k n pc pc' : Nat} {R0 : Room} {lv : List (Nat × Value)} {st : List Value} {index : Nat} {a : Nat → Nat} {S : OB} {i : Int32} (B : CX Γ cc nL RX1 R0) (hR : 1 ≤ R0.frames ∧ 21 ≤ R0.locals) (hroom : k ≤ R0.cells ∧ n ≤ R0.slots) (hsum : (st.map fun v => v.category).sum ≤ 8) (hnw : Cond.methodLinkNest RX1 index yX2_valueAt RX2 ∈ nestW) (d : decode cc pc = .ok (.invokestatic index, 3)) (hp : pc + 3 = pc') (kk : X Γ nL k n pc' lv (.int (vAt 10 (S.2 6) i) :: st) (wS Γ.cs.1 a S)) : X Γ nL k n pc lv (.int i :: .ref (a 6) :: st) (wS Γ.cs.1 a S) :=
  x_GSNi (ws' := wS Γ.cs.1 a S) (wr := (wS Γ.cs.1 a S).eraseIdx 6) B [.ref (a 6), .int i] (c_valueAt _ _ _ 10 (by decide) (a 6) i (S.2 6)) [6] [0, 1, 2, 3, 4, 5] [0, 1, 2, 3, 4, 5, 6] rfl rfl rfl rfl (by decide) rfl rfl hnw gs_valueAt np_valueAt hR hroom rfl hsum d hp kk
theorem s_pAt6 {Γ : Ctx} {cc : ByteArray} {nL k n pc pc' : Nat} {R0 : Room} {lv : List (Nat × Value)} {st : List Value} {index : Nat} {a : Nat → Nat} {S : OB} {i v : Int32} (B : CX Γ cc nL RX1 R0) (hR : 1 ≤ R0.frames ∧ 22 ≤ R0.locals) (hroom : k ≤ R0.cells ∧ n ≤ R0.slots) (hsum : (st.map fun v => v.category).sum ≤ 8) (hnw : Cond.methodLinkNest RX1 index yX2_putAt RX2 ∈ nestW) (d : decode cc pc = .ok (.invokestatic index, 3)) (hp : pc + 3 = pc') (kk : X Γ nL k n pc' lv st (wS Γ.cs.1 a (S.1, up2 S.2 6 (pAt 10 (S.2 6) i v)))) : X Γ nL k n pc lv (.int v :: .int i :: .ref (a 6) :: st) (wS Γ.cs.1 a S) :=
  x_GSNv (ws' := wS Γ.cs.1 a (S.1, up2 S.2 6 (pAt 10 (S.2 6) i v))) (wr := (wS Γ.cs.1 a S).eraseIdx 6) B [.ref (a 6), .int i, .int v] (c_putAt _ _ _ 10 (by decide) (a 6) i v (S.2 6)) [6] [0, 1, 2, 3, 4, 5] [0, 1, 2, 3, 4, 5, 6] rfl rfl rfl rfl (by decide) rfl rfl hnw gs_putAt np_putAt hR hroom rfl hsum d hp kk
theorem t_get1 {Γ : Ctx} {cc : ByteArray} {nL k n pc pc' : Nat} {own : String} {R0 : Room} {lv : List (Nat × Value)} {st : List Value} {index : Nat} {a : Nat → Nat} {S : OB} (B : CX Γ cc nL own R0) (hw : Cond.fieldLink own index "DictationBelt$OrderText" "length" "I" ∈ GW) (d : decode cc pc = .ok (.getfield index, 3)) (hp : pc + 3 = pc') (kk : X Γ nL k n pc' lv (.int (S.1 1) :: st) (wT Γ.cs.1 a S)) : X Γ nL k n pc lv (.ref (a 0) :: st) (wT Γ.cs.1 a S) :=
  x_getf B 0 1 rfl rfl inlX0 (by decide) hw rfl d hp kk
theorem t_put1 {Γ : Ctx} {cc : ByteArray} {nL k n pc pc' : Nat} {own : String} {R0 : Room} {lv : List (Nat × Value)} {st : List Value} {index : Nat} {a : Nat → Nat} {S : OB} {v : Int32} (B : CX Γ cc nL own R0) (hw : Cond.fieldLink own index "DictationBelt$OrderText" "length" "I" ∈ GW) (d : decode cc pc = .ok (.putfield index, 3)) (hp : pc + 3 = pc') (kk : X Γ nL k n pc' lv st (wT Γ.cs.1 a (upd S.1 1 v, S.2))) : X Γ nL k n pc lv (.int v :: .ref (a 0) :: st) (wT Γ.cs.1 a S) :=
  x_putf B 0 1 tyX0 tyX0_ok nmX0 rfl rfl inlX0 (by decide) hw rfl rfl rfl (Nat.le_of_ble_eq_true rfl) rfl d hp kk
theorem t_ref0 {Γ : Ctx} {cc : ByteArray} {nL k n pc pc' : Nat} {own : String} {R0 : Room} {lv : List (Nat × Value)} {st : List Value} {index : Nat} {a : Nat → Nat} {S : OB} (B : CX Γ cc nL own R0) (hw : Cond.fieldLink own index "DictationBelt$OrderText" "codes" "[I" ∈ GW) (d : decode cc pc = .ok (.getfield index, 3)) (hp : pc + 3 = pc') (kk : X Γ nL k n pc' lv (.ref (a 1) :: st) (wT Γ.cs.1 a S)) : X Γ nL k n pc lv (.ref (a 0) :: st) (wT Γ.cs.1 a S) :=
  x_getf B 0 0 rfl rfl inlX0 (by decide) hw rfl d hp kk
theorem t_ald0 {Γ : Ctx} {cc : ByteArray} {nL k n pc pc' : Nat} {own : String} {R0 : Room} {lv : List (Nat × Value)} {st : List Value} {index : Nat} {a : Nat → Nat} {S : OB} {i : Int32} (B : CX Γ cc nL own R0) (hi : vp_in i 60) (d : decode cc pc = .ok (.iaload, 1)) (hp : pc + 1 = pc') (kk : X Γ nL k n pc' lv (.int (S.2 0 i.toNatClampNeg) :: st) (wT Γ.cs.1 a S)) : X Γ nL k n pc lv (.int i :: .ref (a 1) :: st) (wT Γ.cs.1 a S) :=
  x_iald B 1 rfl hi d hp kk
theorem t_ast0 {Γ : Ctx} {cc : ByteArray} {nL k n pc pc' : Nat} {own : String} {R0 : Room} {lv : List (Nat × Value)} {st : List Value} {index : Nat} {a : Nat → Nat} {S : OB} {i v : Int32} (B : CX Γ cc nL own R0) (hi : vp_in i 60) (d : decode cc pc = .ok (.iastore, 1)) (hp : pc + 1 = pc') (kk : X Γ nL k n pc' lv st (wT Γ.cs.1 a (S.1, up2 S.2 0 (upd (S.2 0) i.toNatClampNeg v)))) : X Γ nL k n pc lv (.int v :: .int i :: .ref (a 1) :: st) (wT Γ.cs.1 a S) :=
  x_iast B 1 rfl hi rfl d hp kk
theorem t_vAt0 {Γ : Ctx} {cc : ByteArray} {nL k n pc pc' : Nat} {R0 : Room} {lv : List (Nat × Value)} {st : List Value} {index : Nat} {a : Nat → Nat} {S : OB} {i : Int32} (B : CX Γ cc nL RX0 R0) (hR : 1 ≤ R0.frames ∧ 21 ≤ R0.locals) (hroom : k ≤ R0.cells ∧ n ≤ R0.slots) (hsum : (st.map fun v => v.category).sum ≤ 8) (hnw : Cond.methodLinkNest RX0 index yX2_valueAt RX2 ∈ nestW) (d : decode cc pc = .ok (.invokestatic index, 3)) (hp : pc + 3 = pc') (kk : X Γ nL k n pc' lv (.int (vAt 60 (S.2 0) i) :: st) (wT Γ.cs.1 a S)) : X Γ nL k n pc lv (.int i :: .ref (a 1) :: st) (wT Γ.cs.1 a S) :=
  x_GSNi (ws' := wT Γ.cs.1 a S) (wr := (wT Γ.cs.1 a S).eraseIdx 1) B [.ref (a 1), .int i] (c_valueAt _ _ _ 60 (by decide) (a 1) i (S.2 0)) [1] [0] [0, 1] rfl rfl rfl rfl (by decide) rfl rfl hnw gs_valueAt np_valueAt hR hroom rfl hsum d hp kk
theorem t_pAt0 {Γ : Ctx} {cc : ByteArray} {nL k n pc pc' : Nat} {R0 : Room} {lv : List (Nat × Value)} {st : List Value} {index : Nat} {a : Nat → Nat} {S : OB} {i v : Int32} (B : CX Γ cc nL RX0 R0) (hR : 1 ≤ R0.frames ∧ 22 ≤ R0.locals) (hroom : k ≤ R0.cells ∧ n ≤ R0.slots) (hsum : (st.map fun v => v.category).sum ≤ 8) (hnw : Cond.methodLinkNest RX0 index yX2_putAt RX2 ∈ nestW) (d : decode cc pc = .ok (.invokestatic index, 3)) (hp : pc + 3 = pc') (kk : X Γ nL k n pc' lv st (wT Γ.cs.1 a (S.1, up2 S.2 0 (pAt 60 (S.2 0) i v)))) : X Γ nL k n pc lv (.int v :: .int i :: .ref (a 1) :: st) (wT Γ.cs.1 a S) :=
  x_GSNv (ws' := wT Γ.cs.1 a (S.1, up2 S.2 0 (pAt 60 (S.2 0) i v))) (wr := (wT Γ.cs.1 a S).eraseIdx 1) B [.ref (a 1), .int i, .int v] (c_putAt _ _ _ 60 (by decide) (a 1) i v (S.2 0)) [1] [0] [0, 1] rfl rfl rfl rfl (by decide) rfl rfl hnw gs_putAt np_putAt hR hroom rfl hsum d hp kk
theorem m_get0 {Γ : Ctx} {cc : ByteArray} {nL k n pc pc' : Nat} {own : String} {R0 : Room} {lv : List (Nat × Value)} {st : List Value} {index : Nat} {a : Nat → Nat} {S : MO} (B : CX Γ cc nL own R0) (hw : Cond.fieldLink own index "DictationBeltModel" "thrown" "I" ∈ GW) (d : decode cc pc = .ok (.getfield index, 3)) (hp : pc + 3 = pc') (kk : X Γ nL k n pc' lv (.int (S.1 0) :: st) (wM Γ.cs.1 a S)) : X Γ nL k n pc lv (.ref (a 0) :: st) (wM Γ.cs.1 a S) :=
  x_getf B 0 0 rfl rfl inlX3 (by decide) hw rfl d hp kk
theorem m_put0 {Γ : Ctx} {cc : ByteArray} {nL k n pc pc' : Nat} {own : String} {R0 : Room} {lv : List (Nat × Value)} {st : List Value} {index : Nat} {a : Nat → Nat} {S : MO} {v : Int32} (B : CX Γ cc nL own R0) (hw : Cond.fieldLink own index "DictationBeltModel" "thrown" "I" ∈ GW) (d : decode cc pc = .ok (.putfield index, 3)) (hp : pc + 3 = pc') (kk : X Γ nL k n pc' lv st (wM Γ.cs.1 a (upd S.1 0 v, S.2))) : X Γ nL k n pc lv (.int v :: .ref (a 0) :: st) (wM Γ.cs.1 a S) :=
  x_putf B 0 0 tyX3 tyX3_ok nmX3 rfl rfl inlX3 (by decide) hw rfl rfl rfl (Nat.le_of_ble_eq_true rfl) rfl d hp kk
theorem m_get2 {Γ : Ctx} {cc : ByteArray} {nL k n pc pc' : Nat} {own : String} {R0 : Room} {lv : List (Nat × Value)} {st : List Value} {index : Nat} {a : Nat → Nat} {S : MO} (B : CX Γ cc nL own R0) (hw : Cond.fieldLink own index "DictationBeltModel" "saved" "I" ∈ GW) (d : decode cc pc = .ok (.getfield index, 3)) (hp : pc + 3 = pc') (kk : X Γ nL k n pc' lv (.int (S.1 2) :: st) (wM Γ.cs.1 a S)) : X Γ nL k n pc lv (.ref (a 0) :: st) (wM Γ.cs.1 a S) :=
  x_getf B 0 2 rfl rfl inlX3 (by decide) hw rfl d hp kk
theorem m_put2 {Γ : Ctx} {cc : ByteArray} {nL k n pc pc' : Nat} {own : String} {R0 : Room} {lv : List (Nat × Value)} {st : List Value} {index : Nat} {a : Nat → Nat} {S : MO} {v : Int32} (B : CX Γ cc nL own R0) (hw : Cond.fieldLink own index "DictationBeltModel" "saved" "I" ∈ GW) (d : decode cc pc = .ok (.putfield index, 3)) (hp : pc + 3 = pc') (kk : X Γ nL k n pc' lv st (wM Γ.cs.1 a (upd S.1 2 v, S.2))) : X Γ nL k n pc lv (.int v :: .ref (a 0) :: st) (wM Γ.cs.1 a S) :=
  x_putf B 0 2 tyX3 tyX3_ok nmX3 rfl rfl inlX3 (by decide) hw rfl rfl rfl (Nat.le_of_ble_eq_true rfl) rfl d hp kk
theorem m_get4 {Γ : Ctx} {cc : ByteArray} {nL k n pc pc' : Nat} {own : String} {R0 : Room} {lv : List (Nat × Value)} {st : List Value} {index : Nat} {a : Nat → Nat} {S : MO} (B : CX Γ cc nL own R0) (hw : Cond.fieldLink own index "DictationBeltModel" "length" "I" ∈ GW) (d : decode cc pc = .ok (.getfield index, 3)) (hp : pc + 3 = pc') (kk : X Γ nL k n pc' lv (.int (S.1 4) :: st) (wM Γ.cs.1 a S)) : X Γ nL k n pc lv (.ref (a 0) :: st) (wM Γ.cs.1 a S) :=
  x_getf B 0 4 rfl rfl inlX3 (by decide) hw rfl d hp kk
theorem m_put4 {Γ : Ctx} {cc : ByteArray} {nL k n pc pc' : Nat} {own : String} {R0 : Room} {lv : List (Nat × Value)} {st : List Value} {index : Nat} {a : Nat → Nat} {S : MO} {v : Int32} (B : CX Γ cc nL own R0) (hw : Cond.fieldLink own index "DictationBeltModel" "length" "I" ∈ GW) (d : decode cc pc = .ok (.putfield index, 3)) (hp : pc + 3 = pc') (kk : X Γ nL k n pc' lv st (wM Γ.cs.1 a (upd S.1 4 v, S.2))) : X Γ nL k n pc lv (.int v :: .ref (a 0) :: st) (wM Γ.cs.1 a S) :=
  x_putf B 0 4 tyX3 tyX3_ok nmX3 rfl rfl inlX3 (by decide) hw rfl rfl rfl (Nat.le_of_ble_eq_true rfl) rfl d hp kk
theorem m_get5 {Γ : Ctx} {cc : ByteArray} {nL k n pc pc' : Nat} {own : String} {R0 : Room} {lv : List (Nat × Value)} {st : List Value} {index : Nat} {a : Nat → Nat} {S : MO} (B : CX Γ cc nL own R0) (hw : Cond.fieldLink own index "DictationBeltModel" "at" "I" ∈ GW) (d : decode cc pc = .ok (.getfield index, 3)) (hp : pc + 3 = pc') (kk : X Γ nL k n pc' lv (.int (S.1 5) :: st) (wM Γ.cs.1 a S)) : X Γ nL k n pc lv (.ref (a 0) :: st) (wM Γ.cs.1 a S) :=
  x_getf B 0 5 rfl rfl inlX3 (by decide) hw rfl d hp kk
theorem m_put5 {Γ : Ctx} {cc : ByteArray} {nL k n pc pc' : Nat} {own : String} {R0 : Room} {lv : List (Nat × Value)} {st : List Value} {index : Nat} {a : Nat → Nat} {S : MO} {v : Int32} (B : CX Γ cc nL own R0) (hw : Cond.fieldLink own index "DictationBeltModel" "at" "I" ∈ GW) (d : decode cc pc = .ok (.putfield index, 3)) (hp : pc + 3 = pc') (kk : X Γ nL k n pc' lv st (wM Γ.cs.1 a (upd S.1 5 v, S.2))) : X Γ nL k n pc lv (.int v :: .ref (a 0) :: st) (wM Γ.cs.1 a S) :=
  x_putf B 0 5 tyX3 tyX3_ok nmX3 rfl rfl inlX3 (by decide) hw rfl rfl rfl (Nat.le_of_ble_eq_true rfl) rfl d hp kk
theorem m_get6 {Γ : Ctx} {cc : ByteArray} {nL k n pc pc' : Nat} {own : String} {R0 : Room} {lv : List (Nat × Value)} {st : List Value} {index : Nat} {a : Nat → Nat} {S : MO} (B : CX Γ cc nL own R0) (hw : Cond.fieldLink own index "DictationBeltModel" "letter" "I" ∈ GW) (d : decode cc pc = .ok (.getfield index, 3)) (hp : pc + 3 = pc') (kk : X Γ nL k n pc' lv (.int (S.1 6) :: st) (wM Γ.cs.1 a S)) : X Γ nL k n pc lv (.ref (a 0) :: st) (wM Γ.cs.1 a S) :=
  x_getf B 0 6 rfl rfl inlX3 (by decide) hw rfl d hp kk
theorem m_put6 {Γ : Ctx} {cc : ByteArray} {nL k n pc pc' : Nat} {own : String} {R0 : Room} {lv : List (Nat × Value)} {st : List Value} {index : Nat} {a : Nat → Nat} {S : MO} {v : Int32} (B : CX Γ cc nL own R0) (hw : Cond.fieldLink own index "DictationBeltModel" "letter" "I" ∈ GW) (d : decode cc pc = .ok (.putfield index, 3)) (hp : pc + 3 = pc') (kk : X Γ nL k n pc' lv st (wM Γ.cs.1 a (upd S.1 6 v, S.2))) : X Γ nL k n pc lv (.int v :: .ref (a 0) :: st) (wM Γ.cs.1 a S) :=
  x_putf B 0 6 tyX3 tyX3_ok nmX3 rfl rfl inlX3 (by decide) hw rfl rfl rfl (Nat.le_of_ble_eq_true rfl) rfl d hp kk
theorem m_get7 {Γ : Ctx} {cc : ByteArray} {nL k n pc pc' : Nat} {own : String} {R0 : Room} {lv : List (Nat × Value)} {st : List Value} {index : Nat} {a : Nat → Nat} {S : MO} (B : CX Γ cc nL own R0) (hw : Cond.fieldLink own index "DictationBeltModel" "first" "I" ∈ GW) (d : decode cc pc = .ok (.getfield index, 3)) (hp : pc + 3 = pc') (kk : X Γ nL k n pc' lv (.int (S.1 7) :: st) (wM Γ.cs.1 a S)) : X Γ nL k n pc lv (.ref (a 0) :: st) (wM Γ.cs.1 a S) :=
  x_getf B 0 7 rfl rfl inlX3 (by decide) hw rfl d hp kk
theorem m_put7 {Γ : Ctx} {cc : ByteArray} {nL k n pc pc' : Nat} {own : String} {R0 : Room} {lv : List (Nat × Value)} {st : List Value} {index : Nat} {a : Nat → Nat} {S : MO} {v : Int32} (B : CX Γ cc nL own R0) (hw : Cond.fieldLink own index "DictationBeltModel" "first" "I" ∈ GW) (d : decode cc pc = .ok (.putfield index, 3)) (hp : pc + 3 = pc') (kk : X Γ nL k n pc' lv st (wM Γ.cs.1 a (upd S.1 7 v, S.2))) : X Γ nL k n pc lv (.int v :: .ref (a 0) :: st) (wM Γ.cs.1 a S) :=
  x_putf B 0 7 tyX3 tyX3_ok nmX3 rfl rfl inlX3 (by decide) hw rfl rfl rfl (Nat.le_of_ble_eq_true rfl) rfl d hp kk
theorem m_get8 {Γ : Ctx} {cc : ByteArray} {nL k n pc pc' : Nat} {own : String} {R0 : Room} {lv : List (Nat × Value)} {st : List Value} {index : Nat} {a : Nat → Nat} {S : MO} (B : CX Γ cc nL own R0) (hw : Cond.fieldLink own index "DictationBeltModel" "second" "I" ∈ GW) (d : decode cc pc = .ok (.getfield index, 3)) (hp : pc + 3 = pc') (kk : X Γ nL k n pc' lv (.int (S.1 8) :: st) (wM Γ.cs.1 a S)) : X Γ nL k n pc lv (.ref (a 0) :: st) (wM Γ.cs.1 a S) :=
  x_getf B 0 8 rfl rfl inlX3 (by decide) hw rfl d hp kk
theorem m_put8 {Γ : Ctx} {cc : ByteArray} {nL k n pc pc' : Nat} {own : String} {R0 : Room} {lv : List (Nat × Value)} {st : List Value} {index : Nat} {a : Nat → Nat} {S : MO} {v : Int32} (B : CX Γ cc nL own R0) (hw : Cond.fieldLink own index "DictationBeltModel" "second" "I" ∈ GW) (d : decode cc pc = .ok (.putfield index, 3)) (hp : pc + 3 = pc') (kk : X Γ nL k n pc' lv st (wM Γ.cs.1 a (upd S.1 8 v, S.2))) : X Γ nL k n pc lv (.int v :: .ref (a 0) :: st) (wM Γ.cs.1 a S) :=
  x_putf B 0 8 tyX3 tyX3_ok nmX3 rfl rfl inlX3 (by decide) hw rfl rfl rfl (Nat.le_of_ble_eq_true rfl) rfl d hp kk
theorem m_ref1 {Γ : Ctx} {cc : ByteArray} {nL k n pc pc' : Nat} {own : String} {R0 : Room} {lv : List (Nat × Value)} {st : List Value} {index : Nat} {a : Nat → Nat} {S : MO} (B : CX Γ cc nL own R0) (hw : Cond.fieldLink own index "DictationBeltModel" "s" "[I" ∈ GW) (d : decode cc pc = .ok (.getfield index, 3)) (hp : pc + 3 = pc') (kk : X Γ nL k n pc' lv (.ref (a 1) :: st) (wM Γ.cs.1 a S)) : X Γ nL k n pc lv (.ref (a 0) :: st) (wM Γ.cs.1 a S) :=
  x_getf B 0 1 rfl rfl inlX3 (by decide) hw rfl d hp kk
theorem m_ald1 {Γ : Ctx} {cc : ByteArray} {nL k n pc pc' : Nat} {own : String} {R0 : Room} {lv : List (Nat × Value)} {st : List Value} {index : Nat} {a : Nat → Nat} {S : MO} {i : Int32} (B : CX Γ cc nL own R0) (hi : vp_in i 1085) (d : decode cc pc = .ok (.iaload, 1)) (hp : pc + 1 = pc') (kk : X Γ nL k n pc' lv (.int (S.2.1 1 i.toNatClampNeg) :: st) (wM Γ.cs.1 a S)) : X Γ nL k n pc lv (.int i :: .ref (a 1) :: st) (wM Γ.cs.1 a S) :=
  x_iald B 1 rfl hi d hp kk
theorem m_ast1 {Γ : Ctx} {cc : ByteArray} {nL k n pc pc' : Nat} {own : String} {R0 : Room} {lv : List (Nat × Value)} {st : List Value} {index : Nat} {a : Nat → Nat} {S : MO} {i v : Int32} (B : CX Γ cc nL own R0) (hi : vp_in i 1085) (d : decode cc pc = .ok (.iastore, 1)) (hp : pc + 1 = pc') (kk : X Γ nL k n pc' lv st (wM Γ.cs.1 a (S.1, up2 S.2.1 1 (upd (S.2.1 1) i.toNatClampNeg v), S.2.2))) : X Γ nL k n pc lv (.int v :: .int i :: .ref (a 1) :: st) (wM Γ.cs.1 a S) :=
  x_iast B 1 rfl hi rfl d hp kk
theorem m_ref3 {Γ : Ctx} {cc : ByteArray} {nL k n pc pc' : Nat} {own : String} {R0 : Room} {lv : List (Nat × Value)} {st : List Value} {index : Nat} {a : Nat → Nat} {S : MO} (B : CX Γ cc nL own R0) (hw : Cond.fieldLink own index "DictationBeltModel" "text" "[I" ∈ GW) (d : decode cc pc = .ok (.getfield index, 3)) (hp : pc + 3 = pc') (kk : X Γ nL k n pc' lv (.ref (a 2) :: st) (wM Γ.cs.1 a S)) : X Γ nL k n pc lv (.ref (a 0) :: st) (wM Γ.cs.1 a S) :=
  x_getf B 0 3 rfl rfl inlX3 (by decide) hw rfl d hp kk
theorem m_ald3 {Γ : Ctx} {cc : ByteArray} {nL k n pc pc' : Nat} {own : String} {R0 : Room} {lv : List (Nat × Value)} {st : List Value} {index : Nat} {a : Nat → Nat} {S : MO} {i : Int32} (B : CX Γ cc nL own R0) (hi : vp_in i 60) (d : decode cc pc = .ok (.iaload, 1)) (hp : pc + 1 = pc') (kk : X Γ nL k n pc' lv (.int (S.2.1 3 i.toNatClampNeg) :: st) (wM Γ.cs.1 a S)) : X Γ nL k n pc lv (.int i :: .ref (a 2) :: st) (wM Γ.cs.1 a S) :=
  x_iald B 2 rfl hi d hp kk
theorem m_ast3 {Γ : Ctx} {cc : ByteArray} {nL k n pc pc' : Nat} {own : String} {R0 : Room} {lv : List (Nat × Value)} {st : List Value} {index : Nat} {a : Nat → Nat} {S : MO} {i v : Int32} (B : CX Γ cc nL own R0) (hi : vp_in i 60) (d : decode cc pc = .ok (.iastore, 1)) (hp : pc + 1 = pc') (kk : X Γ nL k n pc' lv st (wM Γ.cs.1 a (S.1, up2 S.2.1 3 (upd (S.2.1 3) i.toNatClampNeg v), S.2.2))) : X Γ nL k n pc lv (.int v :: .int i :: .ref (a 2) :: st) (wM Γ.cs.1 a S) :=
  x_iast B 2 rfl hi rfl d hp kk
theorem m_get9 {Γ : Ctx} {cc : ByteArray} {nL k n pc pc' : Nat} {own : String} {R0 : Room} {lv : List (Nat × Value)} {st : List Value} {index : Nat} {a : Nat → Nat} {S : MO} (B : CX Γ cc nL own R0) (hw : Cond.fieldLink own index "DictationBeltModel" "hash" "J" ∈ GW) (d : decode cc pc = .ok (.getfield index, 3)) (hp : pc + 3 = pc') (kk : X Γ nL k n pc' lv (.long S.2.2 :: st) (wM Γ.cs.1 a S)) : X Γ nL k n pc lv (.ref (a 0) :: st) (wM Γ.cs.1 a S) :=
  x_getf B 0 9 rfl rfl inlX3 (by decide) hw rfl d hp kk
theorem m_put9 {Γ : Ctx} {cc : ByteArray} {nL k n pc pc' : Nat} {own : String} {R0 : Room} {lv : List (Nat × Value)} {st : List Value} {index : Nat} {a : Nat → Nat} {S : MO} {v : Int64} (B : CX Γ cc nL own R0) (hw : Cond.fieldLink own index "DictationBeltModel" "hash" "J" ∈ GW) (d : decode cc pc = .ok (.putfield index, 3)) (hp : pc + 3 = pc') (kk : X Γ nL k n pc' lv st (wM Γ.cs.1 a (S.1, S.2.1, v))) : X Γ nL k n pc lv (.long v :: .ref (a 0) :: st) (wM Γ.cs.1 a S) :=
  x_putf B 0 9 tyX3 tyX3_ok nmX3 rfl rfl inlX3 (by decide) hw rfl rfl rfl (Nat.le_of_ble_eq_true rfl) rfl d hp kk
theorem b_get2 {Γ : Ctx} {cc : ByteArray} {nL k n pc pc' : Nat} {own : String} {R0 : Room} {lv : List (Nat × Value)} {st : List Value} {index : Nat} {a : Nat → Nat → Nat} {S : BO} (B : CX Γ cc nL own R0) (hw : Cond.fieldLink own index "DictationBelt" "nextSlot" "I" ∈ GW) (d : decode cc pc = .ok (.getfield index, 3)) (hp : pc + 3 = pc') (kk : X Γ nL k n pc' lv (.int (S.1 2) :: st) (wB Γ.cs a S)) : X Γ nL k n pc lv (.ref (a 0 0) :: st) (wB Γ.cs a S) :=
  x_getf B 0 2 rfl rfl inlX2 (by decide) hw rfl d hp kk
theorem b_put2 {Γ : Ctx} {cc : ByteArray} {nL k n pc pc' : Nat} {own : String} {R0 : Room} {lv : List (Nat × Value)} {st : List Value} {index : Nat} {a : Nat → Nat → Nat} {S : BO} {v : Int32} (B : CX Γ cc nL own R0) (hw : Cond.fieldLink own index "DictationBelt" "nextSlot" "I" ∈ GW) (d : decode cc pc = .ok (.putfield index, 3)) (hp : pc + 3 = pc') (kk : X Γ nL k n pc' lv st (wB Γ.cs a (upd S.1 2 v, S.2))) : X Γ nL k n pc lv (.int v :: .ref (a 0 0) :: st) (wB Γ.cs a S) :=
  x_putf B 0 2 tyX2 tyX2_ok nmX2 rfl rfl inlX2 (by decide) hw rfl rfl rfl (Nat.le_of_ble_eq_true rfl) rfl d hp kk
theorem b_get3 {Γ : Ctx} {cc : ByteArray} {nL k n pc pc' : Nat} {own : String} {R0 : Room} {lv : List (Nat × Value)} {st : List Value} {index : Nat} {a : Nat → Nat → Nat} {S : BO} (B : CX Γ cc nL own R0) (hw : Cond.fieldLink own index "DictationBelt" "savedCount" "I" ∈ GW) (d : decode cc pc = .ok (.getfield index, 3)) (hp : pc + 3 = pc') (kk : X Γ nL k n pc' lv (.int (S.1 3) :: st) (wB Γ.cs a S)) : X Γ nL k n pc lv (.ref (a 0 0) :: st) (wB Γ.cs a S) :=
  x_getf B 0 3 rfl rfl inlX2 (by decide) hw rfl d hp kk
theorem b_put3 {Γ : Ctx} {cc : ByteArray} {nL k n pc pc' : Nat} {own : String} {R0 : Room} {lv : List (Nat × Value)} {st : List Value} {index : Nat} {a : Nat → Nat → Nat} {S : BO} {v : Int32} (B : CX Γ cc nL own R0) (hw : Cond.fieldLink own index "DictationBelt" "savedCount" "I" ∈ GW) (d : decode cc pc = .ok (.putfield index, 3)) (hp : pc + 3 = pc') (kk : X Γ nL k n pc' lv st (wB Γ.cs a (upd S.1 3 v, S.2))) : X Γ nL k n pc lv (.int v :: .ref (a 0 0) :: st) (wB Γ.cs a S) :=
  x_putf B 0 3 tyX2 tyX2_ok nmX2 rfl rfl inlX2 (by decide) hw rfl rfl rfl (Nat.le_of_ble_eq_true rfl) rfl d hp kk
theorem b_ref0 {Γ : Ctx} {cc : ByteArray} {nL k n pc pc' : Nat} {own : String} {R0 : Room} {lv : List (Nat × Value)} {st : List Value} {index : Nat} {a : Nat → Nat → Nat} {S : BO} (B : CX Γ cc nL own R0) (hw : Cond.fieldLink own index "DictationBelt" "now" "LDictationBelt$State;" ∈ GW) (d : decode cc pc = .ok (.getfield index, 3)) (hp : pc + 3 = pc') (kk : X Γ nL k n pc' lv (.ref (a 1 0) :: st) (wB Γ.cs a S)) : X Γ nL k n pc lv (.ref (a 0 0) :: st) (wB Γ.cs a S) :=
  x_getf B 0 0 rfl rfl inlX2 (by decide) hw rfl d hp kk
theorem b_ref1 {Γ : Ctx} {cc : ByteArray} {nL k n pc pc' : Nat} {own : String} {R0 : Room} {lv : List (Nat × Value)} {st : List Value} {index : Nat} {a : Nat → Nat → Nat} {S : BO} (B : CX Γ cc nL own R0) (hw : Cond.fieldLink own index "DictationBelt" "saved" "[LDictationBelt$State;" ∈ GW) (d : decode cc pc = .ok (.getfield index, 3)) (hp : pc + 3 = pc') (kk : X Γ nL k n pc' lv (.ref (a 0 1) :: st) (wB Γ.cs a S)) : X Γ nL k n pc lv (.ref (a 0 0) :: st) (wB Γ.cs a S) :=
  x_getf B 0 1 rfl rfl inlX2 (by decide) hw rfl d hp kk
theorem b_ref4 {Γ : Ctx} {cc : ByteArray} {nL k n pc pc' : Nat} {own : String} {R0 : Room} {lv : List (Nat × Value)} {st : List Value} {index : Nat} {a : Nat → Nat → Nat} {S : BO} (B : CX Γ cc nL own R0) (hw : Cond.fieldLink own index "DictationBelt" "text" "LDictationBelt$OrderText;" ∈ GW) (d : decode cc pc = .ok (.getfield index, 3)) (hp : pc + 3 = pc') (kk : X Γ nL k n pc' lv (.ref (a 2 0) :: st) (wB Γ.cs a S)) : X Γ nL k n pc lv (.ref (a 0 0) :: st) (wB Γ.cs a S) :=
  x_getf B 0 4 rfl rfl inlX2 (by decide) hw rfl d hp kk
theorem bn_get4 {Γ : Ctx} {cc : ByteArray} {nL k n pc pc' : Nat} {own : String} {R0 : Room} {lv : List (Nat × Value)} {st : List Value} {index : Nat} {a : Nat → Nat → Nat} {S : BO} (B : CX Γ cc nL own R0) (hw : Cond.fieldLink own index "DictationBelt$State" "used" "I" ∈ GW) (d : decode cc pc = .ok (.getfield index, 3)) (hp : pc + 3 = pc') (kk : X Γ nL k n pc' lv (.int (S.2.1.1 4) :: st) (wB Γ.cs a S)) : X Γ nL k n pc lv (.ref (a 1 0) :: st) (wB Γ.cs a S) :=
  x_getf B 2 4 rfl rfl inlX1 (by decide) hw rfl d hp kk
theorem bn_put4 {Γ : Ctx} {cc : ByteArray} {nL k n pc pc' : Nat} {own : String} {R0 : Room} {lv : List (Nat × Value)} {st : List Value} {index : Nat} {a : Nat → Nat → Nat} {S : BO} {v : Int32} (B : CX Γ cc nL own R0) (hw : Cond.fieldLink own index "DictationBelt$State" "used" "I" ∈ GW) (d : decode cc pc = .ok (.putfield index, 3)) (hp : pc + 3 = pc') (kk : X Γ nL k n pc' lv st (wB Γ.cs a (S.1, (upd S.2.1.1 4 v, S.2.1.2), S.2.2))) : X Γ nL k n pc lv (.int v :: .ref (a 1 0) :: st) (wB Γ.cs a S) :=
  x_putf B 2 4 tyX1 tyX1_ok nmX1 rfl rfl inlX1 (by decide) hw rfl rfl rfl (Nat.le_of_ble_eq_true rfl) rfl d hp kk
theorem bn_get7 {Γ : Ctx} {cc : ByteArray} {nL k n pc pc' : Nat} {own : String} {R0 : Room} {lv : List (Nat × Value)} {st : List Value} {index : Nat} {a : Nat → Nat → Nat} {S : BO} (B : CX Γ cc nL own R0) (hw : Cond.fieldLink own index "DictationBelt$State" "count" "I" ∈ GW) (d : decode cc pc = .ok (.getfield index, 3)) (hp : pc + 3 = pc') (kk : X Γ nL k n pc' lv (.int (S.2.1.1 7) :: st) (wB Γ.cs a S)) : X Γ nL k n pc lv (.ref (a 1 0) :: st) (wB Γ.cs a S) :=
  x_getf B 2 7 rfl rfl inlX1 (by decide) hw rfl d hp kk
theorem bn_put7 {Γ : Ctx} {cc : ByteArray} {nL k n pc pc' : Nat} {own : String} {R0 : Room} {lv : List (Nat × Value)} {st : List Value} {index : Nat} {a : Nat → Nat → Nat} {S : BO} {v : Int32} (B : CX Γ cc nL own R0) (hw : Cond.fieldLink own index "DictationBelt$State" "count" "I" ∈ GW) (d : decode cc pc = .ok (.putfield index, 3)) (hp : pc + 3 = pc') (kk : X Γ nL k n pc' lv st (wB Γ.cs a (S.1, (upd S.2.1.1 7 v, S.2.1.2), S.2.2))) : X Γ nL k n pc lv (.int v :: .ref (a 1 0) :: st) (wB Γ.cs a S) :=
  x_putf B 2 7 tyX1 tyX1_ok nmX1 rfl rfl inlX1 (by decide) hw rfl rfl rfl (Nat.le_of_ble_eq_true rfl) rfl d hp kk
theorem bn_get8 {Γ : Ctx} {cc : ByteArray} {nL k n pc pc' : Nat} {own : String} {R0 : Room} {lv : List (Nat × Value)} {st : List Value} {index : Nat} {a : Nat → Nat → Nat} {S : BO} (B : CX Γ cc nL own R0) (hw : Cond.fieldLink own index "DictationBelt$State" "isRunning" "Z" ∈ GW) (d : decode cc pc = .ok (.getfield index, 3)) (hp : pc + 3 = pc') (kk : X Γ nL k n pc' lv (.int (S.2.1.1 8) :: st) (wB Γ.cs a S)) : X Γ nL k n pc lv (.ref (a 1 0) :: st) (wB Γ.cs a S) :=
  x_getf B 2 8 rfl rfl inlX1 (by decide) hw rfl d hp kk
theorem bn_put8 {Γ : Ctx} {cc : ByteArray} {nL k n pc pc' : Nat} {own : String} {R0 : Room} {lv : List (Nat × Value)} {st : List Value} {index : Nat} {a : Nat → Nat → Nat} {S : BO} {v : Int32} (hv : v = 0 ∨ v = 1) (B : CX Γ cc nL own R0) (hw : Cond.fieldLink own index "DictationBelt$State" "isRunning" "Z" ∈ GW) (d : decode cc pc = .ok (.putfield index, 3)) (hp : pc + 3 = pc') (kk : X Γ nL k n pc' lv st (wB Γ.cs a (S.1, (upd S.2.1.1 8 v, S.2.1.2), S.2.2))) : X Γ nL k n pc lv (.int v :: .ref (a 1 0) :: st) (wB Γ.cs a S) :=
  x_putf B 2 8 tyX1 tyX1_ok nmX1 rfl rfl inlX1 (by decide) hw rfl (zb_nar hv) (by rcases hv with rfl | rfl <;> rfl) (Nat.le_of_ble_eq_true rfl) rfl d hp kk
theorem bn_get9 {Γ : Ctx} {cc : ByteArray} {nL k n pc pc' : Nat} {own : String} {R0 : Room} {lv : List (Nat × Value)} {st : List Value} {index : Nat} {a : Nat → Nat → Nat} {S : BO} (B : CX Γ cc nL own R0) (hw : Cond.fieldLink own index "DictationBelt$State" "head" "I" ∈ GW) (d : decode cc pc = .ok (.getfield index, 3)) (hp : pc + 3 = pc') (kk : X Γ nL k n pc' lv (.int (S.2.1.1 9) :: st) (wB Γ.cs a S)) : X Γ nL k n pc lv (.ref (a 1 0) :: st) (wB Γ.cs a S) :=
  x_getf B 2 9 rfl rfl inlX1 (by decide) hw rfl d hp kk
theorem bn_put9 {Γ : Ctx} {cc : ByteArray} {nL k n pc pc' : Nat} {own : String} {R0 : Room} {lv : List (Nat × Value)} {st : List Value} {index : Nat} {a : Nat → Nat → Nat} {S : BO} {v : Int32} (B : CX Γ cc nL own R0) (hw : Cond.fieldLink own index "DictationBelt$State" "head" "I" ∈ GW) (d : decode cc pc = .ok (.putfield index, 3)) (hp : pc + 3 = pc') (kk : X Γ nL k n pc' lv st (wB Γ.cs a (S.1, (upd S.2.1.1 9 v, S.2.1.2), S.2.2))) : X Γ nL k n pc lv (.int v :: .ref (a 1 0) :: st) (wB Γ.cs a S) :=
  x_putf B 2 9 tyX1 tyX1_ok nmX1 rfl rfl inlX1 (by decide) hw rfl rfl rfl (Nat.le_of_ble_eq_true rfl) rfl d hp kk
theorem bn_get10 {Γ : Ctx} {cc : ByteArray} {nL k n pc pc' : Nat} {own : String} {R0 : Room} {lv : List (Nat × Value)} {st : List Value} {index : Nat} {a : Nat → Nat → Nat} {S : BO} (B : CX Γ cc nL own R0) (hw : Cond.fieldLink own index "DictationBelt$State" "spoken" "I" ∈ GW) (d : decode cc pc = .ok (.getfield index, 3)) (hp : pc + 3 = pc') (kk : X Γ nL k n pc' lv (.int (S.2.1.1 10) :: st) (wB Γ.cs a S)) : X Γ nL k n pc lv (.ref (a 1 0) :: st) (wB Γ.cs a S) :=
  x_getf B 2 10 rfl rfl inlX1 (by decide) hw rfl d hp kk
theorem bn_put10 {Γ : Ctx} {cc : ByteArray} {nL k n pc pc' : Nat} {own : String} {R0 : Room} {lv : List (Nat × Value)} {st : List Value} {index : Nat} {a : Nat → Nat → Nat} {S : BO} {v : Int32} (B : CX Γ cc nL own R0) (hw : Cond.fieldLink own index "DictationBelt$State" "spoken" "I" ∈ GW) (d : decode cc pc = .ok (.putfield index, 3)) (hp : pc + 3 = pc') (kk : X Γ nL k n pc' lv st (wB Γ.cs a (S.1, (upd S.2.1.1 10 v, S.2.1.2), S.2.2))) : X Γ nL k n pc lv (.int v :: .ref (a 1 0) :: st) (wB Γ.cs a S) :=
  x_putf B 2 10 tyX1 tyX1_ok nmX1 rfl rfl inlX1 (by decide) hw rfl rfl rfl (Nat.le_of_ble_eq_true rfl) rfl d hp kk
theorem bn_get11 {Γ : Ctx} {cc : ByteArray} {nL k n pc pc' : Nat} {own : String} {R0 : Room} {lv : List (Nat × Value)} {st : List Value} {index : Nat} {a : Nat → Nat → Nat} {S : BO} (B : CX Γ cc nL own R0) (hw : Cond.fieldLink own index "DictationBelt$State" "gone" "I" ∈ GW) (d : decode cc pc = .ok (.getfield index, 3)) (hp : pc + 3 = pc') (kk : X Γ nL k n pc' lv (.int (S.2.1.1 11) :: st) (wB Γ.cs a S)) : X Γ nL k n pc lv (.ref (a 1 0) :: st) (wB Γ.cs a S) :=
  x_getf B 2 11 rfl rfl inlX1 (by decide) hw rfl d hp kk
theorem bn_put11 {Γ : Ctx} {cc : ByteArray} {nL k n pc pc' : Nat} {own : String} {R0 : Room} {lv : List (Nat × Value)} {st : List Value} {index : Nat} {a : Nat → Nat → Nat} {S : BO} {v : Int32} (B : CX Γ cc nL own R0) (hw : Cond.fieldLink own index "DictationBelt$State" "gone" "I" ∈ GW) (d : decode cc pc = .ok (.putfield index, 3)) (hp : pc + 3 = pc') (kk : X Γ nL k n pc' lv st (wB Γ.cs a (S.1, (upd S.2.1.1 11 v, S.2.1.2), S.2.2))) : X Γ nL k n pc lv (.int v :: .ref (a 1 0) :: st) (wB Γ.cs a S) :=
  x_putf B 2 11 tyX1 tyX1_ok nmX1 rfl rfl inlX1 (by decide) hw rfl rfl rfl (Nat.le_of_ble_eq_true rfl) rfl d hp kk
theorem bn_get12 {Γ : Ctx} {cc : ByteArray} {nL k n pc pc' : Nat} {own : String} {R0 : Room} {lv : List (Nat × Value)} {st : List Value} {index : Nat} {a : Nat → Nat → Nat} {S : BO} (B : CX Γ cc nL own R0) (hw : Cond.fieldLink own index "DictationBelt$State" "player" "I" ∈ GW) (d : decode cc pc = .ok (.getfield index, 3)) (hp : pc + 3 = pc') (kk : X Γ nL k n pc' lv (.int (S.2.1.1 12) :: st) (wB Γ.cs a S)) : X Γ nL k n pc lv (.ref (a 1 0) :: st) (wB Γ.cs a S) :=
  x_getf B 2 12 rfl rfl inlX1 (by decide) hw rfl d hp kk
theorem bn_put12 {Γ : Ctx} {cc : ByteArray} {nL k n pc pc' : Nat} {own : String} {R0 : Room} {lv : List (Nat × Value)} {st : List Value} {index : Nat} {a : Nat → Nat → Nat} {S : BO} {v : Int32} (B : CX Γ cc nL own R0) (hw : Cond.fieldLink own index "DictationBelt$State" "player" "I" ∈ GW) (d : decode cc pc = .ok (.putfield index, 3)) (hp : pc + 3 = pc') (kk : X Γ nL k n pc' lv st (wB Γ.cs a (S.1, (upd S.2.1.1 12 v, S.2.1.2), S.2.2))) : X Γ nL k n pc lv (.int v :: .ref (a 1 0) :: st) (wB Γ.cs a S) :=
  x_putf B 2 12 tyX1 tyX1_ok nmX1 rfl rfl inlX1 (by decide) hw rfl rfl rfl (Nat.le_of_ble_eq_true rfl) rfl d hp kk
theorem bn_get13 {Γ : Ctx} {cc : ByteArray} {nL k n pc pc' : Nat} {own : String} {R0 : Room} {lv : List (Nat × Value)} {st : List Value} {index : Nat} {a : Nat → Nat → Nat} {S : BO} (B : CX Γ cc nL own R0) (hw : Cond.fieldLink own index "DictationBelt$State" "place" "I" ∈ GW) (d : decode cc pc = .ok (.getfield index, 3)) (hp : pc + 3 = pc') (kk : X Γ nL k n pc' lv (.int (S.2.1.1 13) :: st) (wB Γ.cs a S)) : X Γ nL k n pc lv (.ref (a 1 0) :: st) (wB Γ.cs a S) :=
  x_getf B 2 13 rfl rfl inlX1 (by decide) hw rfl d hp kk
theorem bn_put13 {Γ : Ctx} {cc : ByteArray} {nL k n pc pc' : Nat} {own : String} {R0 : Room} {lv : List (Nat × Value)} {st : List Value} {index : Nat} {a : Nat → Nat → Nat} {S : BO} {v : Int32} (B : CX Γ cc nL own R0) (hw : Cond.fieldLink own index "DictationBelt$State" "place" "I" ∈ GW) (d : decode cc pc = .ok (.putfield index, 3)) (hp : pc + 3 = pc') (kk : X Γ nL k n pc' lv st (wB Γ.cs a (S.1, (upd S.2.1.1 13 v, S.2.1.2), S.2.2))) : X Γ nL k n pc lv (.int v :: .ref (a 1 0) :: st) (wB Γ.cs a S) :=
  x_putf B 2 13 tyX1 tyX1_ok nmX1 rfl rfl inlX1 (by decide) hw rfl rfl rfl (Nat.le_of_ble_eq_true rfl) rfl d hp kk
theorem bn_ref0 {Γ : Ctx} {cc : ByteArray} {nL k n pc pc' : Nat} {own : String} {R0 : Room} {lv : List (Nat × Value)} {st : List Value} {index : Nat} {a : Nat → Nat → Nat} {S : BO} (B : CX Γ cc nL own R0) (hw : Cond.fieldLink own index "DictationBelt$State" "owners" "[I" ∈ GW) (d : decode cc pc = .ok (.getfield index, 3)) (hp : pc + 3 = pc') (kk : X Γ nL k n pc' lv (.ref (a 1 1) :: st) (wB Γ.cs a S)) : X Γ nL k n pc lv (.ref (a 1 0) :: st) (wB Γ.cs a S) :=
  x_getf B 2 0 rfl rfl inlX1 (by decide) hw rfl d hp kk
theorem bn_ald0 {Γ : Ctx} {cc : ByteArray} {nL k n pc pc' : Nat} {own : String} {R0 : Room} {lv : List (Nat × Value)} {st : List Value} {index : Nat} {a : Nat → Nat → Nat} {S : BO} {i : Int32} (B : CX Γ cc nL own R0) (hi : vp_in i 32) (d : decode cc pc = .ok (.iaload, 1)) (hp : pc + 1 = pc') (kk : X Γ nL k n pc' lv (.int (S.2.1.2 0 i.toNatClampNeg) :: st) (wB Γ.cs a S)) : X Γ nL k n pc lv (.int i :: .ref (a 1 1) :: st) (wB Γ.cs a S) :=
  x_iald B 3 rfl hi d hp kk
theorem bn_ast0 {Γ : Ctx} {cc : ByteArray} {nL k n pc pc' : Nat} {own : String} {R0 : Room} {lv : List (Nat × Value)} {st : List Value} {index : Nat} {a : Nat → Nat → Nat} {S : BO} {i v : Int32} (B : CX Γ cc nL own R0) (hi : vp_in i 32) (d : decode cc pc = .ok (.iastore, 1)) (hp : pc + 1 = pc') (kk : X Γ nL k n pc' lv st (wB Γ.cs a (S.1, (S.2.1.1, up2 S.2.1.2 0 (upd (S.2.1.2 0) i.toNatClampNeg v)), S.2.2))) : X Γ nL k n pc lv (.int v :: .int i :: .ref (a 1 1) :: st) (wB Γ.cs a S) :=
  x_iast B 3 rfl hi rfl d hp kk
theorem bn_vAt0 {Γ : Ctx} {cc : ByteArray} {nL k n pc pc' : Nat} {R0 : Room} {lv : List (Nat × Value)} {st : List Value} {index : Nat} {a : Nat → Nat → Nat} {S : BO} {i : Int32} (B : CX Γ cc nL RX2 R0) (hR : 1 ≤ R0.frames ∧ 21 ≤ R0.locals) (hroom : k ≤ R0.cells ∧ n ≤ R0.slots) (hsum : (st.map fun v => v.category).sum ≤ 8) (hi9 : index = gv_valueAt_idx) (d : decode cc pc = .ok (.invokestatic index, 3)) (hp : pc + 3 = pc') (kk : X Γ nL k n pc' lv (.int (vAt 32 (S.2.1.2 0) i) :: st) (wB Γ.cs a S)) : X Γ nL k n pc lv (.int i :: .ref (a 1 1) :: st) (wB Γ.cs a S) :=
  x_GSi (ws' := wB Γ.cs a S) (wr := (wB Γ.cs a S).eraseIdx 3) B [.ref (a 1 1), .int i] (c_valueAt _ _ _ 32 (by decide) (a 1 1) i (S.2.1.2 0)) [3] [0, 1, 2, 4, 5, 6, 7, 8, 9, 10, 11, 12, 13, 14, 15, 16, 17, 18, 19, 20, 21, 22, 23, 24, 25, 26, 27, 28, 29, 30, 31, 32, 33, 34, 35, 36, 37, 38, 39, 40, 41, 42, 43, 44, 45, 46, 47, 48, 49, 50, 51, 52] [0, 1, 2, 52, 3, 4, 5, 6, 7, 8, 9, 10, 11, 12, 13, 14, 15, 16, 17, 18, 19, 20, 21, 22, 23, 24, 25, 26, 27, 28, 29, 30, 31, 32, 33, 34, 35, 36, 37, 38, 39, 40, 41, 42, 43, 44, 45, 46, 47, 48, 49, 50, 51] rfl rfl rfl rfl (by decide) rfl rfl (hi9 ▸ gs_RX2_valueAt) np_valueAt hR hroom rfl hsum d hp kk
theorem bn_pAt0 {Γ : Ctx} {cc : ByteArray} {nL k n pc pc' : Nat} {R0 : Room} {lv : List (Nat × Value)} {st : List Value} {index : Nat} {a : Nat → Nat → Nat} {S : BO} {i v : Int32} (B : CX Γ cc nL RX2 R0) (hR : 1 ≤ R0.frames ∧ 22 ≤ R0.locals) (hroom : k ≤ R0.cells ∧ n ≤ R0.slots) (hsum : (st.map fun v => v.category).sum ≤ 8) (hi9 : index = gv_putAt_idx) (d : decode cc pc = .ok (.invokestatic index, 3)) (hp : pc + 3 = pc') (kk : X Γ nL k n pc' lv st (wB Γ.cs a (S.1, (S.2.1.1, up2 S.2.1.2 0 (pAt 32 (S.2.1.2 0) i v)), S.2.2))) : X Γ nL k n pc lv (.int v :: .int i :: .ref (a 1 1) :: st) (wB Γ.cs a S) :=
  x_GSv (ws' := wB Γ.cs a (S.1, (S.2.1.1, up2 S.2.1.2 0 (pAt 32 (S.2.1.2 0) i v)), S.2.2)) (wr := (wB Γ.cs a S).eraseIdx 3) B [.ref (a 1 1), .int i, .int v] (c_putAt _ _ _ 32 (by decide) (a 1 1) i v (S.2.1.2 0)) [3] [0, 1, 2, 4, 5, 6, 7, 8, 9, 10, 11, 12, 13, 14, 15, 16, 17, 18, 19, 20, 21, 22, 23, 24, 25, 26, 27, 28, 29, 30, 31, 32, 33, 34, 35, 36, 37, 38, 39, 40, 41, 42, 43, 44, 45, 46, 47, 48, 49, 50, 51, 52] [0, 1, 2, 52, 3, 4, 5, 6, 7, 8, 9, 10, 11, 12, 13, 14, 15, 16, 17, 18, 19, 20, 21, 22, 23, 24, 25, 26, 27, 28, 29, 30, 31, 32, 33, 34, 35, 36, 37, 38, 39, 40, 41, 42, 43, 44, 45, 46, 47, 48, 49, 50, 51] rfl rfl rfl rfl (by decide) rfl rfl (hi9 ▸ gs_RX2_putAt) np_putAt hR hroom rfl hsum d hp kk
theorem bn_ref1 {Γ : Ctx} {cc : ByteArray} {nL k n pc pc' : Nat} {own : String} {R0 : Room} {lv : List (Nat × Value)} {st : List Value} {index : Nat} {a : Nat → Nat → Nat} {S : BO} (B : CX Γ cc nL own R0) (hw : Cond.fieldLink own index "DictationBelt$State" "sounds" "[I" ∈ GW) (d : decode cc pc = .ok (.getfield index, 3)) (hp : pc + 3 = pc') (kk : X Γ nL k n pc' lv (.ref (a 1 2) :: st) (wB Γ.cs a S)) : X Γ nL k n pc lv (.ref (a 1 0) :: st) (wB Γ.cs a S) :=
  x_getf B 2 1 rfl rfl inlX1 (by decide) hw rfl d hp kk
theorem bn_ald1 {Γ : Ctx} {cc : ByteArray} {nL k n pc pc' : Nat} {own : String} {R0 : Room} {lv : List (Nat × Value)} {st : List Value} {index : Nat} {a : Nat → Nat → Nat} {S : BO} {i : Int32} (B : CX Γ cc nL own R0) (hi : vp_in i 32) (d : decode cc pc = .ok (.iaload, 1)) (hp : pc + 1 = pc') (kk : X Γ nL k n pc' lv (.int (S.2.1.2 1 i.toNatClampNeg) :: st) (wB Γ.cs a S)) : X Γ nL k n pc lv (.int i :: .ref (a 1 2) :: st) (wB Γ.cs a S) :=
  x_iald B 4 rfl hi d hp kk
theorem bn_ast1 {Γ : Ctx} {cc : ByteArray} {nL k n pc pc' : Nat} {own : String} {R0 : Room} {lv : List (Nat × Value)} {st : List Value} {index : Nat} {a : Nat → Nat → Nat} {S : BO} {i v : Int32} (B : CX Γ cc nL own R0) (hi : vp_in i 32) (d : decode cc pc = .ok (.iastore, 1)) (hp : pc + 1 = pc') (kk : X Γ nL k n pc' lv st (wB Γ.cs a (S.1, (S.2.1.1, up2 S.2.1.2 1 (upd (S.2.1.2 1) i.toNatClampNeg v)), S.2.2))) : X Γ nL k n pc lv (.int v :: .int i :: .ref (a 1 2) :: st) (wB Γ.cs a S) :=
  x_iast B 4 rfl hi rfl d hp kk
theorem bn_vAt1 {Γ : Ctx} {cc : ByteArray} {nL k n pc pc' : Nat} {R0 : Room} {lv : List (Nat × Value)} {st : List Value} {index : Nat} {a : Nat → Nat → Nat} {S : BO} {i : Int32} (B : CX Γ cc nL RX2 R0) (hR : 1 ≤ R0.frames ∧ 21 ≤ R0.locals) (hroom : k ≤ R0.cells ∧ n ≤ R0.slots) (hsum : (st.map fun v => v.category).sum ≤ 8) (hi9 : index = gv_valueAt_idx) (d : decode cc pc = .ok (.invokestatic index, 3)) (hp : pc + 3 = pc') (kk : X Γ nL k n pc' lv (.int (vAt 32 (S.2.1.2 1) i) :: st) (wB Γ.cs a S)) : X Γ nL k n pc lv (.int i :: .ref (a 1 2) :: st) (wB Γ.cs a S) :=
  x_GSi (ws' := wB Γ.cs a S) (wr := (wB Γ.cs a S).eraseIdx 4) B [.ref (a 1 2), .int i] (c_valueAt _ _ _ 32 (by decide) (a 1 2) i (S.2.1.2 1)) [4] [0, 1, 2, 3, 5, 6, 7, 8, 9, 10, 11, 12, 13, 14, 15, 16, 17, 18, 19, 20, 21, 22, 23, 24, 25, 26, 27, 28, 29, 30, 31, 32, 33, 34, 35, 36, 37, 38, 39, 40, 41, 42, 43, 44, 45, 46, 47, 48, 49, 50, 51, 52] [0, 1, 2, 3, 52, 4, 5, 6, 7, 8, 9, 10, 11, 12, 13, 14, 15, 16, 17, 18, 19, 20, 21, 22, 23, 24, 25, 26, 27, 28, 29, 30, 31, 32, 33, 34, 35, 36, 37, 38, 39, 40, 41, 42, 43, 44, 45, 46, 47, 48, 49, 50, 51] rfl rfl rfl rfl (by decide) rfl rfl (hi9 ▸ gs_RX2_valueAt) np_valueAt hR hroom rfl hsum d hp kk
theorem bn_pAt1 {Γ : Ctx} {cc : ByteArray} {nL k n pc pc' : Nat} {R0 : Room} {lv : List (Nat × Value)} {st : List Value} {index : Nat} {a : Nat → Nat → Nat} {S : BO} {i v : Int32} (B : CX Γ cc nL RX2 R0) (hR : 1 ≤ R0.frames ∧ 22 ≤ R0.locals) (hroom : k ≤ R0.cells ∧ n ≤ R0.slots) (hsum : (st.map fun v => v.category).sum ≤ 8) (hi9 : index = gv_putAt_idx) (d : decode cc pc = .ok (.invokestatic index, 3)) (hp : pc + 3 = pc') (kk : X Γ nL k n pc' lv st (wB Γ.cs a (S.1, (S.2.1.1, up2 S.2.1.2 1 (pAt 32 (S.2.1.2 1) i v)), S.2.2))) : X Γ nL k n pc lv (.int v :: .int i :: .ref (a 1 2) :: st) (wB Γ.cs a S) :=
  x_GSv (ws' := wB Γ.cs a (S.1, (S.2.1.1, up2 S.2.1.2 1 (pAt 32 (S.2.1.2 1) i v)), S.2.2)) (wr := (wB Γ.cs a S).eraseIdx 4) B [.ref (a 1 2), .int i, .int v] (c_putAt _ _ _ 32 (by decide) (a 1 2) i v (S.2.1.2 1)) [4] [0, 1, 2, 3, 5, 6, 7, 8, 9, 10, 11, 12, 13, 14, 15, 16, 17, 18, 19, 20, 21, 22, 23, 24, 25, 26, 27, 28, 29, 30, 31, 32, 33, 34, 35, 36, 37, 38, 39, 40, 41, 42, 43, 44, 45, 46, 47, 48, 49, 50, 51, 52] [0, 1, 2, 3, 52, 4, 5, 6, 7, 8, 9, 10, 11, 12, 13, 14, 15, 16, 17, 18, 19, 20, 21, 22, 23, 24, 25, 26, 27, 28, 29, 30, 31, 32, 33, 34, 35, 36, 37, 38, 39, 40, 41, 42, 43, 44, 45, 46, 47, 48, 49, 50, 51] rfl rfl rfl rfl (by decide) rfl rfl (hi9 ▸ gs_RX2_putAt) np_putAt hR hroom rfl hsum d hp kk
theorem bn_ref2 {Γ : Ctx} {cc : ByteArray} {nL k n pc pc' : Nat} {own : String} {R0 : Room} {lv : List (Nat × Value)} {st : List Value} {index : Nat} {a : Nat → Nat → Nat} {S : BO} (B : CX Γ cc nL own R0) (hw : Cond.fieldLink own index "DictationBelt$State" "carbons" "[I" ∈ GW) (d : decode cc pc = .ok (.getfield index, 3)) (hp : pc + 3 = pc') (kk : X Γ nL k n pc' lv (.ref (a 1 3) :: st) (wB Γ.cs a S)) : X Γ nL k n pc lv (.ref (a 1 0) :: st) (wB Γ.cs a S) :=
  x_getf B 2 2 rfl rfl inlX1 (by decide) hw rfl d hp kk
theorem bn_ald2 {Γ : Ctx} {cc : ByteArray} {nL k n pc pc' : Nat} {own : String} {R0 : Room} {lv : List (Nat × Value)} {st : List Value} {index : Nat} {a : Nat → Nat → Nat} {S : BO} {i : Int32} (B : CX Γ cc nL own R0) (hi : vp_in i 32) (d : decode cc pc = .ok (.iaload, 1)) (hp : pc + 1 = pc') (kk : X Γ nL k n pc' lv (.int (S.2.1.2 2 i.toNatClampNeg) :: st) (wB Γ.cs a S)) : X Γ nL k n pc lv (.int i :: .ref (a 1 3) :: st) (wB Γ.cs a S) :=
  x_iald B 5 rfl hi d hp kk
theorem bn_ast2 {Γ : Ctx} {cc : ByteArray} {nL k n pc pc' : Nat} {own : String} {R0 : Room} {lv : List (Nat × Value)} {st : List Value} {index : Nat} {a : Nat → Nat → Nat} {S : BO} {i v : Int32} (B : CX Γ cc nL own R0) (hi : vp_in i 32) (d : decode cc pc = .ok (.iastore, 1)) (hp : pc + 1 = pc') (kk : X Γ nL k n pc' lv st (wB Γ.cs a (S.1, (S.2.1.1, up2 S.2.1.2 2 (upd (S.2.1.2 2) i.toNatClampNeg v)), S.2.2))) : X Γ nL k n pc lv (.int v :: .int i :: .ref (a 1 3) :: st) (wB Γ.cs a S) :=
  x_iast B 5 rfl hi rfl d hp kk
theorem bn_vAt2 {Γ : Ctx} {cc : ByteArray} {nL k n pc pc' : Nat} {R0 : Room} {lv : List (Nat × Value)} {st : List Value} {index : Nat} {a : Nat → Nat → Nat} {S : BO} {i : Int32} (B : CX Γ cc nL RX2 R0) (hR : 1 ≤ R0.frames ∧ 21 ≤ R0.locals) (hroom : k ≤ R0.cells ∧ n ≤ R0.slots) (hsum : (st.map fun v => v.category).sum ≤ 8) (hi9 : index = gv_valueAt_idx) (d : decode cc pc = .ok (.invokestatic index, 3)) (hp : pc + 3 = pc') (kk : X Γ nL k n pc' lv (.int (vAt 32 (S.2.1.2 2) i) :: st) (wB Γ.cs a S)) : X Γ nL k n pc lv (.int i :: .ref (a 1 3) :: st) (wB Γ.cs a S) :=
  x_GSi (ws' := wB Γ.cs a S) (wr := (wB Γ.cs a S).eraseIdx 5) B [.ref (a 1 3), .int i] (c_valueAt _ _ _ 32 (by decide) (a 1 3) i (S.2.1.2 2)) [5] [0, 1, 2, 3, 4, 6, 7, 8, 9, 10, 11, 12, 13, 14, 15, 16, 17, 18, 19, 20, 21, 22, 23, 24, 25, 26, 27, 28, 29, 30, 31, 32, 33, 34, 35, 36, 37, 38, 39, 40, 41, 42, 43, 44, 45, 46, 47, 48, 49, 50, 51, 52] [0, 1, 2, 3, 4, 52, 5, 6, 7, 8, 9, 10, 11, 12, 13, 14, 15, 16, 17, 18, 19, 20, 21, 22, 23, 24, 25, 26, 27, 28, 29, 30, 31, 32, 33, 34, 35, 36, 37, 38, 39, 40, 41, 42, 43, 44, 45, 46, 47, 48, 49, 50, 51] rfl rfl rfl rfl (by decide) rfl rfl (hi9 ▸ gs_RX2_valueAt) np_valueAt hR hroom rfl hsum d hp kk
theorem bn_pAt2 {Γ : Ctx} {cc : ByteArray} {nL k n pc pc' : Nat} {R0 : Room} {lv : List (Nat × Value)} {st : List Value} {index : Nat} {a : Nat → Nat → Nat} {S : BO} {i v : Int32} (B : CX Γ cc nL RX2 R0) (hR : 1 ≤ R0.frames ∧ 22 ≤ R0.locals) (hroom : k ≤ R0.cells ∧ n ≤ R0.slots) (hsum : (st.map fun v => v.category).sum ≤ 8) (hi9 : index = gv_putAt_idx) (d : decode cc pc = .ok (.invokestatic index, 3)) (hp : pc + 3 = pc') (kk : X Γ nL k n pc' lv st (wB Γ.cs a (S.1, (S.2.1.1, up2 S.2.1.2 2 (pAt 32 (S.2.1.2 2) i v)), S.2.2))) : X Γ nL k n pc lv (.int v :: .int i :: .ref (a 1 3) :: st) (wB Γ.cs a S) :=
  x_GSv (ws' := wB Γ.cs a (S.1, (S.2.1.1, up2 S.2.1.2 2 (pAt 32 (S.2.1.2 2) i v)), S.2.2)) (wr := (wB Γ.cs a S).eraseIdx 5) B [.ref (a 1 3), .int i, .int v] (c_putAt _ _ _ 32 (by decide) (a 1 3) i v (S.2.1.2 2)) [5] [0, 1, 2, 3, 4, 6, 7, 8, 9, 10, 11, 12, 13, 14, 15, 16, 17, 18, 19, 20, 21, 22, 23, 24, 25, 26, 27, 28, 29, 30, 31, 32, 33, 34, 35, 36, 37, 38, 39, 40, 41, 42, 43, 44, 45, 46, 47, 48, 49, 50, 51, 52] [0, 1, 2, 3, 4, 52, 5, 6, 7, 8, 9, 10, 11, 12, 13, 14, 15, 16, 17, 18, 19, 20, 21, 22, 23, 24, 25, 26, 27, 28, 29, 30, 31, 32, 33, 34, 35, 36, 37, 38, 39, 40, 41, 42, 43, 44, 45, 46, 47, 48, 49, 50, 51] rfl rfl rfl rfl (by decide) rfl rfl (hi9 ▸ gs_RX2_putAt) np_putAt hR hroom rfl hsum d hp kk
theorem bn_ref3 {Γ : Ctx} {cc : ByteArray} {nL k n pc pc' : Nat} {own : String} {R0 : Room} {lv : List (Nat × Value)} {st : List Value} {index : Nat} {a : Nat → Nat → Nat} {S : BO} (B : CX Γ cc nL own R0) (hw : Cond.fieldLink own index "DictationBelt$State" "order" "[I" ∈ GW) (d : decode cc pc = .ok (.getfield index, 3)) (hp : pc + 3 = pc') (kk : X Γ nL k n pc' lv (.ref (a 1 4) :: st) (wB Γ.cs a S)) : X Γ nL k n pc lv (.ref (a 1 0) :: st) (wB Γ.cs a S) :=
  x_getf B 2 3 rfl rfl inlX1 (by decide) hw rfl d hp kk
theorem bn_ald3 {Γ : Ctx} {cc : ByteArray} {nL k n pc pc' : Nat} {own : String} {R0 : Room} {lv : List (Nat × Value)} {st : List Value} {index : Nat} {a : Nat → Nat → Nat} {S : BO} {i : Int32} (B : CX Γ cc nL own R0) (hi : vp_in i 32) (d : decode cc pc = .ok (.iaload, 1)) (hp : pc + 1 = pc') (kk : X Γ nL k n pc' lv (.int (S.2.1.2 3 i.toNatClampNeg) :: st) (wB Γ.cs a S)) : X Γ nL k n pc lv (.int i :: .ref (a 1 4) :: st) (wB Γ.cs a S) :=
  x_iald B 6 rfl hi d hp kk
theorem bn_ast3 {Γ : Ctx} {cc : ByteArray} {nL k n pc pc' : Nat} {own : String} {R0 : Room} {lv : List (Nat × Value)} {st : List Value} {index : Nat} {a : Nat → Nat → Nat} {S : BO} {i v : Int32} (B : CX Γ cc nL own R0) (hi : vp_in i 32) (d : decode cc pc = .ok (.iastore, 1)) (hp : pc + 1 = pc') (kk : X Γ nL k n pc' lv st (wB Γ.cs a (S.1, (S.2.1.1, up2 S.2.1.2 3 (upd (S.2.1.2 3) i.toNatClampNeg v)), S.2.2))) : X Γ nL k n pc lv (.int v :: .int i :: .ref (a 1 4) :: st) (wB Γ.cs a S) :=
  x_iast B 6 rfl hi rfl d hp kk
theorem bn_vAt3 {Γ : Ctx} {cc : ByteArray} {nL k n pc pc' : Nat} {R0 : Room} {lv : List (Nat × Value)} {st : List Value} {index : Nat} {a : Nat → Nat → Nat} {S : BO} {i : Int32} (B : CX Γ cc nL RX2 R0) (hR : 1 ≤ R0.frames ∧ 21 ≤ R0.locals) (hroom : k ≤ R0.cells ∧ n ≤ R0.slots) (hsum : (st.map fun v => v.category).sum ≤ 8) (hi9 : index = gv_valueAt_idx) (d : decode cc pc = .ok (.invokestatic index, 3)) (hp : pc + 3 = pc') (kk : X Γ nL k n pc' lv (.int (vAt 32 (S.2.1.2 3) i) :: st) (wB Γ.cs a S)) : X Γ nL k n pc lv (.int i :: .ref (a 1 4) :: st) (wB Γ.cs a S) :=
  x_GSi (ws' := wB Γ.cs a S) (wr := (wB Γ.cs a S).eraseIdx 6) B [.ref (a 1 4), .int i] (c_valueAt _ _ _ 32 (by decide) (a 1 4) i (S.2.1.2 3)) [6] [0, 1, 2, 3, 4, 5, 7, 8, 9, 10, 11, 12, 13, 14, 15, 16, 17, 18, 19, 20, 21, 22, 23, 24, 25, 26, 27, 28, 29, 30, 31, 32, 33, 34, 35, 36, 37, 38, 39, 40, 41, 42, 43, 44, 45, 46, 47, 48, 49, 50, 51, 52] [0, 1, 2, 3, 4, 5, 52, 6, 7, 8, 9, 10, 11, 12, 13, 14, 15, 16, 17, 18, 19, 20, 21, 22, 23, 24, 25, 26, 27, 28, 29, 30, 31, 32, 33, 34, 35, 36, 37, 38, 39, 40, 41, 42, 43, 44, 45, 46, 47, 48, 49, 50, 51] rfl rfl rfl rfl (by decide) rfl rfl (hi9 ▸ gs_RX2_valueAt) np_valueAt hR hroom rfl hsum d hp kk
theorem bn_pAt3 {Γ : Ctx} {cc : ByteArray} {nL k n pc pc' : Nat} {R0 : Room} {lv : List (Nat × Value)} {st : List Value} {index : Nat} {a : Nat → Nat → Nat} {S : BO} {i v : Int32} (B : CX Γ cc nL RX2 R0) (hR : 1 ≤ R0.frames ∧ 22 ≤ R0.locals) (hroom : k ≤ R0.cells ∧ n ≤ R0.slots) (hsum : (st.map fun v => v.category).sum ≤ 8) (hi9 : index = gv_putAt_idx) (d : decode cc pc = .ok (.invokestatic index, 3)) (hp : pc + 3 = pc') (kk : X Γ nL k n pc' lv st (wB Γ.cs a (S.1, (S.2.1.1, up2 S.2.1.2 3 (pAt 32 (S.2.1.2 3) i v)), S.2.2))) : X Γ nL k n pc lv (.int v :: .int i :: .ref (a 1 4) :: st) (wB Γ.cs a S) :=
  x_GSv (ws' := wB Γ.cs a (S.1, (S.2.1.1, up2 S.2.1.2 3 (pAt 32 (S.2.1.2 3) i v)), S.2.2)) (wr := (wB Γ.cs a S).eraseIdx 6) B [.ref (a 1 4), .int i, .int v] (c_putAt _ _ _ 32 (by decide) (a 1 4) i v (S.2.1.2 3)) [6] [0, 1, 2, 3, 4, 5, 7, 8, 9, 10, 11, 12, 13, 14, 15, 16, 17, 18, 19, 20, 21, 22, 23, 24, 25, 26, 27, 28, 29, 30, 31, 32, 33, 34, 35, 36, 37, 38, 39, 40, 41, 42, 43, 44, 45, 46, 47, 48, 49, 50, 51, 52] [0, 1, 2, 3, 4, 5, 52, 6, 7, 8, 9, 10, 11, 12, 13, 14, 15, 16, 17, 18, 19, 20, 21, 22, 23, 24, 25, 26, 27, 28, 29, 30, 31, 32, 33, 34, 35, 36, 37, 38, 39, 40, 41, 42, 43, 44, 45, 46, 47, 48, 49, 50, 51] rfl rfl rfl rfl (by decide) rfl rfl (hi9 ▸ gs_RX2_putAt) np_putAt hR hroom rfl hsum d hp kk
theorem bn_ref5 {Γ : Ctx} {cc : ByteArray} {nL k n pc pc' : Nat} {own : String} {R0 : Room} {lv : List (Nat × Value)} {st : List Value} {index : Nat} {a : Nat → Nat → Nat} {S : BO} (B : CX Γ cc nL own R0) (hw : Cond.fieldLink own index "DictationBelt$State" "flags" "[I" ∈ GW) (d : decode cc pc = .ok (.getfield index, 3)) (hp : pc + 3 = pc') (kk : X Γ nL k n pc' lv (.ref (a 1 5) :: st) (wB Γ.cs a S)) : X Γ nL k n pc lv (.ref (a 1 0) :: st) (wB Γ.cs a S) :=
  x_getf B 2 5 rfl rfl inlX1 (by decide) hw rfl d hp kk
theorem bn_ald5 {Γ : Ctx} {cc : ByteArray} {nL k n pc pc' : Nat} {own : String} {R0 : Room} {lv : List (Nat × Value)} {st : List Value} {index : Nat} {a : Nat → Nat → Nat} {S : BO} {i : Int32} (B : CX Γ cc nL own R0) (hi : vp_in i 10) (d : decode cc pc = .ok (.iaload, 1)) (hp : pc + 1 = pc') (kk : X Γ nL k n pc' lv (.int (S.2.1.2 5 i.toNatClampNeg) :: st) (wB Γ.cs a S)) : X Γ nL k n pc lv (.int i :: .ref (a 1 5) :: st) (wB Γ.cs a S) :=
  x_iald B 7 rfl hi d hp kk
theorem bn_ast5 {Γ : Ctx} {cc : ByteArray} {nL k n pc pc' : Nat} {own : String} {R0 : Room} {lv : List (Nat × Value)} {st : List Value} {index : Nat} {a : Nat → Nat → Nat} {S : BO} {i v : Int32} (B : CX Γ cc nL own R0) (hi : vp_in i 10) (d : decode cc pc = .ok (.iastore, 1)) (hp : pc + 1 = pc') (kk : X Γ nL k n pc' lv st (wB Γ.cs a (S.1, (S.2.1.1, up2 S.2.1.2 5 (upd (S.2.1.2 5) i.toNatClampNeg v)), S.2.2))) : X Γ nL k n pc lv (.int v :: .int i :: .ref (a 1 5) :: st) (wB Γ.cs a S) :=
  x_iast B 7 rfl hi rfl d hp kk
theorem bn_vAt5 {Γ : Ctx} {cc : ByteArray} {nL k n pc pc' : Nat} {R0 : Room} {lv : List (Nat × Value)} {st : List Value} {index : Nat} {a : Nat → Nat → Nat} {S : BO} {i : Int32} (B : CX Γ cc nL RX2 R0) (hR : 1 ≤ R0.frames ∧ 21 ≤ R0.locals) (hroom : k ≤ R0.cells ∧ n ≤ R0.slots) (hsum : (st.map fun v => v.category).sum ≤ 8) (hi9 : index = gv_valueAt_idx) (d : decode cc pc = .ok (.invokestatic index, 3)) (hp : pc + 3 = pc') (kk : X Γ nL k n pc' lv (.int (vAt 10 (S.2.1.2 5) i) :: st) (wB Γ.cs a S)) : X Γ nL k n pc lv (.int i :: .ref (a 1 5) :: st) (wB Γ.cs a S) :=
  x_GSi (ws' := wB Γ.cs a S) (wr := (wB Γ.cs a S).eraseIdx 7) B [.ref (a 1 5), .int i] (c_valueAt _ _ _ 10 (by decide) (a 1 5) i (S.2.1.2 5)) [7] [0, 1, 2, 3, 4, 5, 6, 8, 9, 10, 11, 12, 13, 14, 15, 16, 17, 18, 19, 20, 21, 22, 23, 24, 25, 26, 27, 28, 29, 30, 31, 32, 33, 34, 35, 36, 37, 38, 39, 40, 41, 42, 43, 44, 45, 46, 47, 48, 49, 50, 51, 52] [0, 1, 2, 3, 4, 5, 6, 52, 7, 8, 9, 10, 11, 12, 13, 14, 15, 16, 17, 18, 19, 20, 21, 22, 23, 24, 25, 26, 27, 28, 29, 30, 31, 32, 33, 34, 35, 36, 37, 38, 39, 40, 41, 42, 43, 44, 45, 46, 47, 48, 49, 50, 51] rfl rfl rfl rfl (by decide) rfl rfl (hi9 ▸ gs_RX2_valueAt) np_valueAt hR hroom rfl hsum d hp kk
theorem bn_pAt5 {Γ : Ctx} {cc : ByteArray} {nL k n pc pc' : Nat} {R0 : Room} {lv : List (Nat × Value)} {st : List Value} {index : Nat} {a : Nat → Nat → Nat} {S : BO} {i v : Int32} (B : CX Γ cc nL RX2 R0) (hR : 1 ≤ R0.frames ∧ 22 ≤ R0.locals) (hroom : k ≤ R0.cells ∧ n ≤ R0.slots) (hsum : (st.map fun v => v.category).sum ≤ 8) (hi9 : index = gv_putAt_idx) (d : decode cc pc = .ok (.invokestatic index, 3)) (hp : pc + 3 = pc') (kk : X Γ nL k n pc' lv st (wB Γ.cs a (S.1, (S.2.1.1, up2 S.2.1.2 5 (pAt 10 (S.2.1.2 5) i v)), S.2.2))) : X Γ nL k n pc lv (.int v :: .int i :: .ref (a 1 5) :: st) (wB Γ.cs a S) :=
  x_GSv (ws' := wB Γ.cs a (S.1, (S.2.1.1, up2 S.2.1.2 5 (pAt 10 (S.2.1.2 5) i v)), S.2.2)) (wr := (wB Γ.cs a S).eraseIdx 7) B [.ref (a 1 5), .int i, .int v] (c_putAt _ _ _ 10 (by decide) (a 1 5) i v (S.2.1.2 5)) [7] [0, 1, 2, 3, 4, 5, 6, 8, 9, 10, 11, 12, 13, 14, 15, 16, 17, 18, 19, 20, 21, 22, 23, 24, 25, 26, 27, 28, 29, 30, 31, 32, 33, 34, 35, 36, 37, 38, 39, 40, 41, 42, 43, 44, 45, 46, 47, 48, 49, 50, 51, 52] [0, 1, 2, 3, 4, 5, 6, 52, 7, 8, 9, 10, 11, 12, 13, 14, 15, 16, 17, 18, 19, 20, 21, 22, 23, 24, 25, 26, 27, 28, 29, 30, 31, 32, 33, 34, 35, 36, 37, 38, 39, 40, 41, 42, 43, 44, 45, 46, 47, 48, 49, 50, 51] rfl rfl rfl rfl (by decide) rfl rfl (hi9 ▸ gs_RX2_putAt) np_putAt hR hroom rfl hsum d hp kk
theorem bn_ref6 {Γ : Ctx} {cc : ByteArray} {nL k n pc pc' : Nat} {own : String} {R0 : Room} {lv : List (Nat × Value)} {st : List Value} {index : Nat} {a : Nat → Nat → Nat} {S : BO} (B : CX Γ cc nL own R0) (hw : Cond.fieldLink own index "DictationBelt$State" "losses" "[I" ∈ GW) (d : decode cc pc = .ok (.getfield index, 3)) (hp : pc + 3 = pc') (kk : X Γ nL k n pc' lv (.ref (a 1 6) :: st) (wB Γ.cs a S)) : X Γ nL k n pc lv (.ref (a 1 0) :: st) (wB Γ.cs a S) :=
  x_getf B 2 6 rfl rfl inlX1 (by decide) hw rfl d hp kk
theorem bn_ald6 {Γ : Ctx} {cc : ByteArray} {nL k n pc pc' : Nat} {own : String} {R0 : Room} {lv : List (Nat × Value)} {st : List Value} {index : Nat} {a : Nat → Nat → Nat} {S : BO} {i : Int32} (B : CX Γ cc nL own R0) (hi : vp_in i 10) (d : decode cc pc = .ok (.iaload, 1)) (hp : pc + 1 = pc') (kk : X Γ nL k n pc' lv (.int (S.2.1.2 6 i.toNatClampNeg) :: st) (wB Γ.cs a S)) : X Γ nL k n pc lv (.int i :: .ref (a 1 6) :: st) (wB Γ.cs a S) :=
  x_iald B 8 rfl hi d hp kk
theorem bn_ast6 {Γ : Ctx} {cc : ByteArray} {nL k n pc pc' : Nat} {own : String} {R0 : Room} {lv : List (Nat × Value)} {st : List Value} {index : Nat} {a : Nat → Nat → Nat} {S : BO} {i v : Int32} (B : CX Γ cc nL own R0) (hi : vp_in i 10) (d : decode cc pc = .ok (.iastore, 1)) (hp : pc + 1 = pc') (kk : X Γ nL k n pc' lv st (wB Γ.cs a (S.1, (S.2.1.1, up2 S.2.1.2 6 (upd (S.2.1.2 6) i.toNatClampNeg v)), S.2.2))) : X Γ nL k n pc lv (.int v :: .int i :: .ref (a 1 6) :: st) (wB Γ.cs a S) :=
  x_iast B 8 rfl hi rfl d hp kk
theorem bn_vAt6 {Γ : Ctx} {cc : ByteArray} {nL k n pc pc' : Nat} {R0 : Room} {lv : List (Nat × Value)} {st : List Value} {index : Nat} {a : Nat → Nat → Nat} {S : BO} {i : Int32} (B : CX Γ cc nL RX2 R0) (hR : 1 ≤ R0.frames ∧ 21 ≤ R0.locals) (hroom : k ≤ R0.cells ∧ n ≤ R0.slots) (hsum : (st.map fun v => v.category).sum ≤ 8) (hi9 : index = gv_valueAt_idx) (d : decode cc pc = .ok (.invokestatic index, 3)) (hp : pc + 3 = pc') (kk : X Γ nL k n pc' lv (.int (vAt 10 (S.2.1.2 6) i) :: st) (wB Γ.cs a S)) : X Γ nL k n pc lv (.int i :: .ref (a 1 6) :: st) (wB Γ.cs a S) :=
  x_GSi (ws' := wB Γ.cs a S) (wr := (wB Γ.cs a S).eraseIdx 8) B [.ref (a 1 6), .int i] (c_valueAt _ _ _ 10 (by decide) (a 1 6) i (S.2.1.2 6)) [8] [0, 1, 2, 3, 4, 5, 6, 7, 9, 10, 11, 12, 13, 14, 15, 16, 17, 18, 19, 20, 21, 22, 23, 24, 25, 26, 27, 28, 29, 30, 31, 32, 33, 34, 35, 36, 37, 38, 39, 40, 41, 42, 43, 44, 45, 46, 47, 48, 49, 50, 51, 52] [0, 1, 2, 3, 4, 5, 6, 7, 52, 8, 9, 10, 11, 12, 13, 14, 15, 16, 17, 18, 19, 20, 21, 22, 23, 24, 25, 26, 27, 28, 29, 30, 31, 32, 33, 34, 35, 36, 37, 38, 39, 40, 41, 42, 43, 44, 45, 46, 47, 48, 49, 50, 51] rfl rfl rfl rfl (by decide) rfl rfl (hi9 ▸ gs_RX2_valueAt) np_valueAt hR hroom rfl hsum d hp kk
theorem bn_pAt6 {Γ : Ctx} {cc : ByteArray} {nL k n pc pc' : Nat} {R0 : Room} {lv : List (Nat × Value)} {st : List Value} {index : Nat} {a : Nat → Nat → Nat} {S : BO} {i v : Int32} (B : CX Γ cc nL RX2 R0) (hR : 1 ≤ R0.frames ∧ 22 ≤ R0.locals) (hroom : k ≤ R0.cells ∧ n ≤ R0.slots) (hsum : (st.map fun v => v.category).sum ≤ 8) (hi9 : index = gv_putAt_idx) (d : decode cc pc = .ok (.invokestatic index, 3)) (hp : pc + 3 = pc') (kk : X Γ nL k n pc' lv st (wB Γ.cs a (S.1, (S.2.1.1, up2 S.2.1.2 6 (pAt 10 (S.2.1.2 6) i v)), S.2.2))) : X Γ nL k n pc lv (.int v :: .int i :: .ref (a 1 6) :: st) (wB Γ.cs a S) :=
  x_GSv (ws' := wB Γ.cs a (S.1, (S.2.1.1, up2 S.2.1.2 6 (pAt 10 (S.2.1.2 6) i v)), S.2.2)) (wr := (wB Γ.cs a S).eraseIdx 8) B [.ref (a 1 6), .int i, .int v] (c_putAt _ _ _ 10 (by decide) (a 1 6) i v (S.2.1.2 6)) [8] [0, 1, 2, 3, 4, 5, 6, 7, 9, 10, 11, 12, 13, 14, 15, 16, 17, 18, 19, 20, 21, 22, 23, 24, 25, 26, 27, 28, 29, 30, 31, 32, 33, 34, 35, 36, 37, 38, 39, 40, 41, 42, 43, 44, 45, 46, 47, 48, 49, 50, 51, 52] [0, 1, 2, 3, 4, 5, 6, 7, 52, 8, 9, 10, 11, 12, 13, 14, 15, 16, 17, 18, 19, 20, 21, 22, 23, 24, 25, 26, 27, 28, 29, 30, 31, 32, 33, 34, 35, 36, 37, 38, 39, 40, 41, 42, 43, 44, 45, 46, 47, 48, 49, 50, 51] rfl rfl rfl rfl (by decide) rfl rfl (hi9 ▸ gs_RX2_putAt) np_putAt hR hroom rfl hsum d hp kk
theorem bt_get1 {Γ : Ctx} {cc : ByteArray} {nL k n pc pc' : Nat} {own : String} {R0 : Room} {lv : List (Nat × Value)} {st : List Value} {index : Nat} {a : Nat → Nat → Nat} {S : BO} (B : CX Γ cc nL own R0) (hw : Cond.fieldLink own index "DictationBelt$OrderText" "length" "I" ∈ GW) (d : decode cc pc = .ok (.getfield index, 3)) (hp : pc + 3 = pc') (kk : X Γ nL k n pc' lv (.int (S.2.2.2.1 1) :: st) (wB Γ.cs a S)) : X Γ nL k n pc lv (.ref (a 2 0) :: st) (wB Γ.cs a S) :=
  x_getf B 9 1 rfl rfl inlX0 (by decide) hw rfl d hp kk
theorem bt_put1 {Γ : Ctx} {cc : ByteArray} {nL k n pc pc' : Nat} {own : String} {R0 : Room} {lv : List (Nat × Value)} {st : List Value} {index : Nat} {a : Nat → Nat → Nat} {S : BO} {v : Int32} (B : CX Γ cc nL own R0) (hw : Cond.fieldLink own index "DictationBelt$OrderText" "length" "I" ∈ GW) (d : decode cc pc = .ok (.putfield index, 3)) (hp : pc + 3 = pc') (kk : X Γ nL k n pc' lv st (wB Γ.cs a (S.1, S.2.1, S.2.2.1, (upd S.2.2.2.1 1 v, S.2.2.2.2)))) : X Γ nL k n pc lv (.int v :: .ref (a 2 0) :: st) (wB Γ.cs a S) :=
  x_putf B 9 1 tyX0 tyX0_ok nmX0 rfl rfl inlX0 (by decide) hw rfl rfl rfl (Nat.le_of_ble_eq_true rfl) rfl d hp kk
theorem bt_ref0 {Γ : Ctx} {cc : ByteArray} {nL k n pc pc' : Nat} {own : String} {R0 : Room} {lv : List (Nat × Value)} {st : List Value} {index : Nat} {a : Nat → Nat → Nat} {S : BO} (B : CX Γ cc nL own R0) (hw : Cond.fieldLink own index "DictationBelt$OrderText" "codes" "[I" ∈ GW) (d : decode cc pc = .ok (.getfield index, 3)) (hp : pc + 3 = pc') (kk : X Γ nL k n pc' lv (.ref (a 2 1) :: st) (wB Γ.cs a S)) : X Γ nL k n pc lv (.ref (a 2 0) :: st) (wB Γ.cs a S) :=
  x_getf B 9 0 rfl rfl inlX0 (by decide) hw rfl d hp kk
theorem bt_ald0 {Γ : Ctx} {cc : ByteArray} {nL k n pc pc' : Nat} {own : String} {R0 : Room} {lv : List (Nat × Value)} {st : List Value} {index : Nat} {a : Nat → Nat → Nat} {S : BO} {i : Int32} (B : CX Γ cc nL own R0) (hi : vp_in i 60) (d : decode cc pc = .ok (.iaload, 1)) (hp : pc + 1 = pc') (kk : X Γ nL k n pc' lv (.int (S.2.2.2.2 0 i.toNatClampNeg) :: st) (wB Γ.cs a S)) : X Γ nL k n pc lv (.int i :: .ref (a 2 1) :: st) (wB Γ.cs a S) :=
  x_iald B 10 rfl hi d hp kk
theorem bt_ast0 {Γ : Ctx} {cc : ByteArray} {nL k n pc pc' : Nat} {own : String} {R0 : Room} {lv : List (Nat × Value)} {st : List Value} {index : Nat} {a : Nat → Nat → Nat} {S : BO} {i v : Int32} (B : CX Γ cc nL own R0) (hi : vp_in i 60) (d : decode cc pc = .ok (.iastore, 1)) (hp : pc + 1 = pc') (kk : X Γ nL k n pc' lv st (wB Γ.cs a (S.1, S.2.1, S.2.2.1, (S.2.2.2.1, up2 S.2.2.2.2 0 (upd (S.2.2.2.2 0) i.toNatClampNeg v))))) : X Γ nL k n pc lv (.int v :: .int i :: .ref (a 2 1) :: st) (wB Γ.cs a S) :=
  x_iast B 10 rfl hi rfl d hp kk
theorem bt_vAt0 {Γ : Ctx} {cc : ByteArray} {nL k n pc pc' : Nat} {R0 : Room} {lv : List (Nat × Value)} {st : List Value} {index : Nat} {a : Nat → Nat → Nat} {S : BO} {i : Int32} (B : CX Γ cc nL RX2 R0) (hR : 1 ≤ R0.frames ∧ 21 ≤ R0.locals) (hroom : k ≤ R0.cells ∧ n ≤ R0.slots) (hsum : (st.map fun v => v.category).sum ≤ 8) (hi9 : index = gv_valueAt_idx) (d : decode cc pc = .ok (.invokestatic index, 3)) (hp : pc + 3 = pc') (kk : X Γ nL k n pc' lv (.int (vAt 60 (S.2.2.2.2 0) i) :: st) (wB Γ.cs a S)) : X Γ nL k n pc lv (.int i :: .ref (a 2 1) :: st) (wB Γ.cs a S) :=
  x_GSi (ws' := wB Γ.cs a S) (wr := (wB Γ.cs a S).eraseIdx 10) B [.ref (a 2 1), .int i] (c_valueAt _ _ _ 60 (by decide) (a 2 1) i (S.2.2.2.2 0)) [10] [0, 1, 2, 3, 4, 5, 6, 7, 8, 9, 11, 12, 13, 14, 15, 16, 17, 18, 19, 20, 21, 22, 23, 24, 25, 26, 27, 28, 29, 30, 31, 32, 33, 34, 35, 36, 37, 38, 39, 40, 41, 42, 43, 44, 45, 46, 47, 48, 49, 50, 51, 52] [0, 1, 2, 3, 4, 5, 6, 7, 8, 9, 52, 10, 11, 12, 13, 14, 15, 16, 17, 18, 19, 20, 21, 22, 23, 24, 25, 26, 27, 28, 29, 30, 31, 32, 33, 34, 35, 36, 37, 38, 39, 40, 41, 42, 43, 44, 45, 46, 47, 48, 49, 50, 51] rfl rfl rfl rfl (by decide) rfl rfl (hi9 ▸ gs_RX2_valueAt) np_valueAt hR hroom rfl hsum d hp kk
theorem bt_pAt0 {Γ : Ctx} {cc : ByteArray} {nL k n pc pc' : Nat} {R0 : Room} {lv : List (Nat × Value)} {st : List Value} {index : Nat} {a : Nat → Nat → Nat} {S : BO} {i v : Int32} (B : CX Γ cc nL RX2 R0) (hR : 1 ≤ R0.frames ∧ 22 ≤ R0.locals) (hroom : k ≤ R0.cells ∧ n ≤ R0.slots) (hsum : (st.map fun v => v.category).sum ≤ 8) (hi9 : index = gv_putAt_idx) (d : decode cc pc = .ok (.invokestatic index, 3)) (hp : pc + 3 = pc') (kk : X Γ nL k n pc' lv st (wB Γ.cs a (S.1, S.2.1, S.2.2.1, (S.2.2.2.1, up2 S.2.2.2.2 0 (pAt 60 (S.2.2.2.2 0) i v))))) : X Γ nL k n pc lv (.int v :: .int i :: .ref (a 2 1) :: st) (wB Γ.cs a S) :=
  x_GSv (ws' := wB Γ.cs a (S.1, S.2.1, S.2.2.1, (S.2.2.2.1, up2 S.2.2.2.2 0 (pAt 60 (S.2.2.2.2 0) i v)))) (wr := (wB Γ.cs a S).eraseIdx 10) B [.ref (a 2 1), .int i, .int v] (c_putAt _ _ _ 60 (by decide) (a 2 1) i v (S.2.2.2.2 0)) [10] [0, 1, 2, 3, 4, 5, 6, 7, 8, 9, 11, 12, 13, 14, 15, 16, 17, 18, 19, 20, 21, 22, 23, 24, 25, 26, 27, 28, 29, 30, 31, 32, 33, 34, 35, 36, 37, 38, 39, 40, 41, 42, 43, 44, 45, 46, 47, 48, 49, 50, 51, 52] [0, 1, 2, 3, 4, 5, 6, 7, 8, 9, 52, 10, 11, 12, 13, 14, 15, 16, 17, 18, 19, 20, 21, 22, 23, 24, 25, 26, 27, 28, 29, 30, 31, 32, 33, 34, 35, 36, 37, 38, 39, 40, 41, 42, 43, 44, 45, 46, 47, 48, 49, 50, 51] rfl rfl rfl rfl (by decide) rfl rfl (hi9 ▸ gs_RX2_putAt) np_putAt hR hroom rfl hsum d hp kk
end
