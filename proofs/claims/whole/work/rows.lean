section
-- ===== PART A: goes FIRST, ahead of the names: the tables' words, and 'selects' of the private methods out of them =====
/-- a private method of a class that the tables say can be made, by its rows of tables_1 -/
def lw_okq (q : MethodName × Nat) : Prop := (q.1.cls ≠ "java/lang/invoke/MethodHandle" ∧ q.1.cls ≠ "java/lang/invoke/VarHandle") ∧ Cond.instantiable q.1.cls q.2 ∈ tables_1 ∧ Cond.privateMethod q.1 ∈ tables_1 ∧ Cond.instanceMethod q.1 ∈ tables_1
theorem lw_p0 : lw_okq (⟨"OutOrder", "startAnew", "(II)V"⟩, 11) := ⟨⟨by decide +kernel, by decide +kernel⟩, List.mem_of_getElem? (i := 18) (by decide +kernel), List.mem_of_getElem? (i := 277) (by decide +kernel), List.mem_of_getElem? (i := 278) (by decide +kernel)⟩
theorem lw_p1 : lw_okq (⟨"OutOrder", "numbersChanged", "()V"⟩, 11) := ⟨⟨by decide +kernel, by decide +kernel⟩, List.mem_of_getElem? (i := 18) (by decide +kernel), List.mem_of_getElem? (i := 293) (by decide +kernel), List.mem_of_getElem? (i := 294) (by decide +kernel)⟩
theorem lw_p2 : lw_okq (⟨"OutOrder", "orderChanged", "()V"⟩, 11) := ⟨⟨by decide +kernel, by decide +kernel⟩, List.mem_of_getElem? (i := 18) (by decide +kernel), List.mem_of_getElem? (i := 305) (by decide +kernel), List.mem_of_getElem? (i := 306) (by decide +kernel)⟩
theorem lw_p3 : lw_okq (⟨"OutOrder", "refuse", "(I)I"⟩, 11) := ⟨⟨by decide +kernel, by decide +kernel⟩, List.mem_of_getElem? (i := 18) (by decide +kernel), List.mem_of_getElem? (i := 351) (by decide +kernel), List.mem_of_getElem? (i := 352) (by decide +kernel)⟩
theorem lw_p4 : lw_okq (⟨"OutOrder", "isNobody", "(I)Z"⟩, 11) := ⟨⟨by decide +kernel, by decide +kernel⟩, List.mem_of_getElem? (i := 18) (by decide +kernel), List.mem_of_getElem? (i := 362) (by decide +kernel), List.mem_of_getElem? (i := 363) (by decide +kernel)⟩
theorem lw_p5 : lw_okq (⟨"OutOrder", "arrange", "(I)V"⟩, 11) := ⟨⟨by decide +kernel, by decide +kernel⟩, List.mem_of_getElem? (i := 18) (by decide +kernel), List.mem_of_getElem? (i := 393) (by decide +kernel), List.mem_of_getElem? (i := 394) (by decide +kernel)⟩
theorem lw_p6 : lw_okq (⟨"OutOrder", "knownMinima", "()LOutOrder$Least;"⟩, 11) := ⟨⟨by decide +kernel, by decide +kernel⟩, List.mem_of_getElem? (i := 18) (by decide +kernel), List.mem_of_getElem? (i := 419) (by decide +kernel), List.mem_of_getElem? (i := 420) (by decide +kernel)⟩
theorem lw_p7 : lw_okq (⟨"OutOrder$Least", "makeNet", "(III)V"⟩, 4) := ⟨⟨by decide +kernel, by decide +kernel⟩, List.mem_of_getElem? (i := 142) (by decide +kernel), List.mem_of_getElem? (i := 427) (by decide +kernel), List.mem_of_getElem? (i := 428) (by decide +kernel)⟩
theorem lw_p8 : lw_okq (⟨"OutOrder$Least", "weigh", "(II)V"⟩, 4) := ⟨⟨by decide +kernel, by decide +kernel⟩, List.mem_of_getElem? (i := 142) (by decide +kernel), List.mem_of_getElem? (i := 437) (by decide +kernel), List.mem_of_getElem? (i := 438) (by decide +kernel)⟩
theorem lw_p9 : lw_okq (⟨"OutOrder$Least", "firstGood", "(IZ)I"⟩, 4) := ⟨⟨by decide +kernel, by decide +kernel⟩, List.mem_of_getElem? (i := 142) (by decide +kernel), List.mem_of_getElem? (i := 453) (by decide +kernel), List.mem_of_getElem? (i := 454) (by decide +kernel)⟩
theorem lw_p10 : lw_okq (⟨"OutOrder$Least", "isGood", "(IIZ)Z"⟩, 4) := ⟨⟨by decide +kernel, by decide +kernel⟩, List.mem_of_getElem? (i := 142) (by decide +kernel), List.mem_of_getElem? (i := 461) (by decide +kernel), List.mem_of_getElem? (i := 462) (by decide +kernel)⟩
theorem lw_p11 : lw_okq (⟨"OutOrder$Rules", "cheapest", "(II)I"⟩, 1) := ⟨⟨by decide +kernel, by decide +kernel⟩, List.mem_of_getElem? (i := 106) (by decide +kernel), List.mem_of_getElem? (i := 476) (by decide +kernel), List.mem_of_getElem? (i := 477) (by decide +kernel)⟩
theorem lw_p12 : lw_okq (⟨"OutOrder$Rules", "cost", "(II)I"⟩, 1) := ⟨⟨by decide +kernel, by decide +kernel⟩, List.mem_of_getElem? (i := 106) (by decide +kernel), List.mem_of_getElem? (i := 480) (by decide +kernel), List.mem_of_getElem? (i := 481) (by decide +kernel)⟩
theorem lw_p13 : lw_okq (⟨"OutOrder", "fullNet", "()LOutOrder$FullNet;"⟩, 11) := ⟨⟨by decide +kernel, by decide +kernel⟩, List.mem_of_getElem? (i := 18) (by decide +kernel), List.mem_of_getElem? (i := 490) (by decide +kernel), List.mem_of_getElem? (i := 491) (by decide +kernel)⟩
theorem lw_p14 : lw_okq (⟨"OutOrder$FullNet", "listFills", "(I)V"⟩, 10) := ⟨⟨by decide +kernel, by decide +kernel⟩, List.mem_of_getElem? (i := 166) (by decide +kernel), List.mem_of_getElem? (i := 501) (by decide +kernel), List.mem_of_getElem? (i := 502) (by decide +kernel)⟩
theorem lw_p15 : lw_okq (⟨"OutOrder$FullNet", "makeTree", "(LOutOrder$Row;)V"⟩, 10) := ⟨⟨by decide +kernel, by decide +kernel⟩, List.mem_of_getElem? (i := 166) (by decide +kernel), List.mem_of_getElem? (i := 506) (by decide +kernel), List.mem_of_getElem? (i := 507) (by decide +kernel)⟩
def lw_privs_1 : List (MethodName × Nat) := [(⟨"OutOrder", "startAnew", "(II)V"⟩, 11), (⟨"OutOrder", "numbersChanged", "()V"⟩, 11), (⟨"OutOrder", "orderChanged", "()V"⟩, 11), (⟨"OutOrder", "refuse", "(I)I"⟩, 11), (⟨"OutOrder", "isNobody", "(I)Z"⟩, 11), (⟨"OutOrder", "arrange", "(I)V"⟩, 11), (⟨"OutOrder", "knownMinima", "()LOutOrder$Least;"⟩, 11), (⟨"OutOrder$Least", "makeNet", "(III)V"⟩, 4), (⟨"OutOrder$Least", "weigh", "(II)V"⟩, 4), (⟨"OutOrder$Least", "firstGood", "(IZ)I"⟩, 4), (⟨"OutOrder$Least", "isGood", "(IIZ)Z"⟩, 4), (⟨"OutOrder$Rules", "cheapest", "(II)I"⟩, 1), (⟨"OutOrder$Rules", "cost", "(II)I"⟩, 1), (⟨"OutOrder", "fullNet", "()LOutOrder$FullNet;"⟩, 11), (⟨"OutOrder$FullNet", "listFills", "(I)V"⟩, 10), (⟨"OutOrder$FullNet", "makeTree", "(LOutOrder$Row;)V"⟩, 10)]
theorem lw_r1 : ∀ q ∈ lw_privs_1, lw_okq q := List.forall_mem_cons.mpr ⟨lw_p0, List.forall_mem_cons.mpr ⟨lw_p1, List.forall_mem_cons.mpr ⟨lw_p2, List.forall_mem_cons.mpr ⟨lw_p3, List.forall_mem_cons.mpr ⟨lw_p4, List.forall_mem_cons.mpr ⟨lw_p5, List.forall_mem_cons.mpr ⟨lw_p6, List.forall_mem_cons.mpr ⟨lw_p7, List.forall_mem_cons.mpr ⟨lw_p8, List.forall_mem_cons.mpr ⟨lw_p9, List.forall_mem_cons.mpr ⟨lw_p10, List.forall_mem_cons.mpr ⟨lw_p11, List.forall_mem_cons.mpr ⟨lw_p12, List.forall_mem_cons.mpr ⟨lw_p13, List.forall_mem_cons.mpr ⟨lw_p14, List.forall_mem_cons.mpr ⟨lw_p15, fun _ h => absurd h List.not_mem_nil⟩⟩⟩⟩⟩⟩⟩⟩⟩⟩⟩⟩⟩⟩⟩⟩
theorem lw_p16 : lw_okq (⟨"OutOrder$FullNet", "makeGroups", "(I)V"⟩, 10) := ⟨⟨by decide +kernel, by decide +kernel⟩, List.mem_of_getElem? (i := 166) (by decide +kernel), List.mem_of_getElem? (i := 513) (by decide +kernel), List.mem_of_getElem? (i := 514) (by decide +kernel)⟩
theorem lw_p17 : lw_okq (⟨"OutOrder$FullNet", "isWithinAnother", "(II)Z"⟩, 10) := ⟨⟨by decide +kernel, by decide +kernel⟩, List.mem_of_getElem? (i := 166) (by decide +kernel), List.mem_of_getElem? (i := 517) (by decide +kernel), List.mem_of_getElem? (i := 518) (by decide +kernel)⟩
theorem lw_p18 : lw_okq (⟨"OutOrder$FullNet", "insertGroup", "(I)V"⟩, 10) := ⟨⟨by decide +kernel, by decide +kernel⟩, List.mem_of_getElem? (i := 166) (by decide +kernel), List.mem_of_getElem? (i := 521) (by decide +kernel), List.mem_of_getElem? (i := 522) (by decide +kernel)⟩
theorem lw_p19 : lw_okq (⟨"OutOrder$Going", "isTwin", "(I)Z"⟩, 3) := ⟨⟨by decide +kernel, by decide +kernel⟩, List.mem_of_getElem? (i := 216) (by decide +kernel), List.mem_of_getElem? (i := 604) (by decide +kernel), List.mem_of_getElem? (i := 605) (by decide +kernel)⟩
theorem lw_p20 : lw_okq (⟨"OutOrder$Work", "takeNumbers", "(LOutOrder$Table;LOutOrder$Row;)V"⟩, 6) := ⟨⟨by decide +kernel, by decide +kernel⟩, List.mem_of_getElem? (i := 236) (by decide +kernel), List.mem_of_getElem? (i := 626) (by decide +kernel), List.mem_of_getElem? (i := 627) (by decide +kernel)⟩
theorem lw_p21 : lw_okq (⟨"OutOrder$Work", "hasRest", "(II)Z"⟩, 6) := ⟨⟨by decide +kernel, by decide +kernel⟩, List.mem_of_getElem? (i := 236) (by decide +kernel), List.mem_of_getElem? (i := 639) (by decide +kernel), List.mem_of_getElem? (i := 640) (by decide +kernel)⟩
theorem lw_p22 : lw_okq (⟨"OutOrder$Work", "eliminate", "(IILOutOrder$Modulus;)V"⟩, 6) := ⟨⟨by decide +kernel, by decide +kernel⟩, List.mem_of_getElem? (i := 236) (by decide +kernel), List.mem_of_getElem? (i := 643) (by decide +kernel), List.mem_of_getElem? (i := 644) (by decide +kernel)⟩
theorem lw_p23 : lw_okq (⟨"OutOrderModel", "refuse", "(I)I"⟩, 24) := ⟨⟨by decide +kernel, by decide +kernel⟩, List.mem_of_getElem? (i := 724) (by decide +kernel), List.mem_of_getElem? (i := 808) (by decide +kernel), List.mem_of_getElem? (i := 809) (by decide +kernel)⟩
theorem lw_p24 : lw_okq (⟨"OutOrderModel", "notWorked", "()V"⟩, 24) := ⟨⟨by decide +kernel, by decide +kernel⟩, List.mem_of_getElem? (i := 724) (by decide +kernel), List.mem_of_getElem? (i := 812) (by decide +kernel), List.mem_of_getElem? (i := 813) (by decide +kernel)⟩
theorem lw_p25 : lw_okq (⟨"OutOrderModel", "beginNet", "()V"⟩, 24) := ⟨⟨by decide +kernel, by decide +kernel⟩, List.mem_of_getElem? (i := 724) (by decide +kernel), List.mem_of_getElem? (i := 820) (by decide +kernel), List.mem_of_getElem? (i := 821) (by decide +kernel)⟩
theorem lw_p26 : lw_okq (⟨"OutOrderModel", "isUnknown", "(I)Z"⟩, 24) := ⟨⟨by decide +kernel, by decide +kernel⟩, List.mem_of_getElem? (i := 724) (by decide +kernel), List.mem_of_getElem? (i := 828) (by decide +kernel), List.mem_of_getElem? (i := 829) (by decide +kernel)⟩
theorem lw_p27 : lw_okq (⟨"OutOrderModel", "modulo", "(J)I"⟩, 24) := ⟨⟨by decide +kernel, by decide +kernel⟩, List.mem_of_getElem? (i := 724) (by decide +kernel), List.mem_of_getElem? (i := 835) (by decide +kernel), List.mem_of_getElem? (i := 836) (by decide +kernel)⟩
theorem lw_p28 : lw_okq (⟨"OutOrderModel", "someHeld", "()Z"⟩, 24) := ⟨⟨by decide +kernel, by decide +kernel⟩, List.mem_of_getElem? (i := 724) (by decide +kernel), List.mem_of_getElem? (i := 851) (by decide +kernel), List.mem_of_getElem? (i := 852) (by decide +kernel)⟩
theorem lw_p29 : lw_okq (⟨"OutOrderModel", "byNumbers", "()V"⟩, 24) := ⟨⟨by decide +kernel, by decide +kernel⟩, List.mem_of_getElem? (i := 724) (by decide +kernel), List.mem_of_getElem? (i := 855) (by decide +kernel), List.mem_of_getElem? (i := 856) (by decide +kernel)⟩
theorem lw_p30 : lw_okq (⟨"OutOrderModel", "byFewest", "(Z)V"⟩, 24) := ⟨⟨by decide +kernel, by decide +kernel⟩, List.mem_of_getElem? (i := 724) (by decide +kernel), List.mem_of_getElem? (i := 859) (by decide +kernel), List.mem_of_getElem? (i := 860) (by decide +kernel)⟩
theorem lw_p31 : lw_okq (⟨"OutOrderModel", "bySearch", "()V"⟩, 24) := ⟨⟨by decide +kernel, by decide +kernel⟩, List.mem_of_getElem? (i := 724) (by decide +kernel), List.mem_of_getElem? (i := 872) (by decide +kernel), List.mem_of_getElem? (i := 873) (by decide +kernel)⟩
def lw_privs_2 : List (MethodName × Nat) := [(⟨"OutOrder$FullNet", "makeGroups", "(I)V"⟩, 10), (⟨"OutOrder$FullNet", "isWithinAnother", "(II)Z"⟩, 10), (⟨"OutOrder$FullNet", "insertGroup", "(I)V"⟩, 10), (⟨"OutOrder$Going", "isTwin", "(I)Z"⟩, 3), (⟨"OutOrder$Work", "takeNumbers", "(LOutOrder$Table;LOutOrder$Row;)V"⟩, 6), (⟨"OutOrder$Work", "hasRest", "(II)Z"⟩, 6), (⟨"OutOrder$Work", "eliminate", "(IILOutOrder$Modulus;)V"⟩, 6), (⟨"OutOrderModel", "refuse", "(I)I"⟩, 24), (⟨"OutOrderModel", "notWorked", "()V"⟩, 24), (⟨"OutOrderModel", "beginNet", "()V"⟩, 24), (⟨"OutOrderModel", "isUnknown", "(I)Z"⟩, 24), (⟨"OutOrderModel", "modulo", "(J)I"⟩, 24), (⟨"OutOrderModel", "someHeld", "()Z"⟩, 24), (⟨"OutOrderModel", "byNumbers", "()V"⟩, 24), (⟨"OutOrderModel", "byFewest", "(Z)V"⟩, 24), (⟨"OutOrderModel", "bySearch", "()V"⟩, 24)]
theorem lw_r2 : ∀ q ∈ lw_privs_2, lw_okq q := List.forall_mem_cons.mpr ⟨lw_p16, List.forall_mem_cons.mpr ⟨lw_p17, List.forall_mem_cons.mpr ⟨lw_p18, List.forall_mem_cons.mpr ⟨lw_p19, List.forall_mem_cons.mpr ⟨lw_p20, List.forall_mem_cons.mpr ⟨lw_p21, List.forall_mem_cons.mpr ⟨lw_p22, List.forall_mem_cons.mpr ⟨lw_p23, List.forall_mem_cons.mpr ⟨lw_p24, List.forall_mem_cons.mpr ⟨lw_p25, List.forall_mem_cons.mpr ⟨lw_p26, List.forall_mem_cons.mpr ⟨lw_p27, List.forall_mem_cons.mpr ⟨lw_p28, List.forall_mem_cons.mpr ⟨lw_p29, List.forall_mem_cons.mpr ⟨lw_p30, List.forall_mem_cons.mpr ⟨lw_p31, fun _ h => absurd h List.not_mem_nil⟩⟩⟩⟩⟩⟩⟩⟩⟩⟩⟩⟩⟩⟩⟩⟩
theorem lw_p32 : lw_okq (⟨"OutOrderModel", "byLeast", "(Z)V"⟩, 24) := ⟨⟨by decide +kernel, by decide +kernel⟩, List.mem_of_getElem? (i := 724) (by decide +kernel), List.mem_of_getElem? (i := 876) (by decide +kernel), List.mem_of_getElem? (i := 877) (by decide +kernel)⟩
theorem lw_p33 : lw_okq (⟨"OutOrderModel", "findLeast", "(Z)V"⟩, 24) := ⟨⟨by decide +kernel, by decide +kernel⟩, List.mem_of_getElem? (i := 724) (by decide +kernel), List.mem_of_getElem? (i := 880) (by decide +kernel), List.mem_of_getElem? (i := 881) (by decide +kernel)⟩
theorem lw_p34 : lw_okq (⟨"OutOrderModel", "costOf", "(IIZ)I"⟩, 24) := ⟨⟨by decide +kernel, by decide +kernel⟩, List.mem_of_getElem? (i := 724) (by decide +kernel), List.mem_of_getElem? (i := 884) (by decide +kernel), List.mem_of_getElem? (i := 885) (by decide +kernel)⟩
theorem lw_p35 : lw_okq (⟨"OutOrderModel", "around", "(II)I"⟩, 24) := ⟨⟨by decide +kernel, by decide +kernel⟩, List.mem_of_getElem? (i := 724) (by decide +kernel), List.mem_of_getElem? (i := 888) (by decide +kernel), List.mem_of_getElem? (i := 889) (by decide +kernel)⟩
theorem lw_p36 : lw_okq (⟨"OutOrderModel", "joined", "(IIZ)I"⟩, 24) := ⟨⟨by decide +kernel, by decide +kernel⟩, List.mem_of_getElem? (i := 724) (by decide +kernel), List.mem_of_getElem? (i := 892) (by decide +kernel), List.mem_of_getElem? (i := 893) (by decide +kernel)⟩
theorem lw_p37 : lw_okq (⟨"OutOrderModel", "goThrough", "()V"⟩, 24) := ⟨⟨by decide +kernel, by decide +kernel⟩, List.mem_of_getElem? (i := 724) (by decide +kernel), List.mem_of_getElem? (i := 900) (by decide +kernel), List.mem_of_getElem? (i := 901) (by decide +kernel)⟩
theorem lw_p38 : lw_okq (⟨"OutOrderModel", "parent", "(I)I"⟩, 24) := ⟨⟨by decide +kernel, by decide +kernel⟩, List.mem_of_getElem? (i := 724) (by decide +kernel), List.mem_of_getElem? (i := 921) (by decide +kernel), List.mem_of_getElem? (i := 922) (by decide +kernel)⟩
theorem lw_p39 : lw_okq (⟨"OutOrderModel", "height", "(I)I"⟩, 24) := ⟨⟨by decide +kernel, by decide +kernel⟩, List.mem_of_getElem? (i := 724) (by decide +kernel), List.mem_of_getElem? (i := 925) (by decide +kernel), List.mem_of_getElem? (i := 926) (by decide +kernel)⟩
theorem lw_p40 : lw_okq (⟨"OutOrderModel", "steps", "(III)I"⟩, 24) := ⟨⟨by decide +kernel, by decide +kernel⟩, List.mem_of_getElem? (i := 724) (by decide +kernel), List.mem_of_getElem? (i := 945) (by decide +kernel), List.mem_of_getElem? (i := 946) (by decide +kernel)⟩
theorem lw_p41 : lw_okq (⟨"OutOrderModel", "goingLacks", "(I)I"⟩, 24) := ⟨⟨by decide +kernel, by decide +kernel⟩, List.mem_of_getElem? (i := 724) (by decide +kernel), List.mem_of_getElem? (i := 958) (by decide +kernel), List.mem_of_getElem? (i := 959) (by decide +kernel)⟩
theorem lw_p42 : lw_okq (⟨"OutOrderModel", "goneBits", "()I"⟩, 24) := ⟨⟨by decide +kernel, by decide +kernel⟩, List.mem_of_getElem? (i := 724) (by decide +kernel), List.mem_of_getElem? (i := 962) (by decide +kernel), List.mem_of_getElem? (i := 963) (by decide +kernel)⟩
theorem lw_p43 : lw_okq (⟨"OutOrderModel", "goingAround", "(I)I"⟩, 24) := ⟨⟨by decide +kernel, by decide +kernel⟩, List.mem_of_getElem? (i := 724) (by decide +kernel), List.mem_of_getElem? (i := 966) (by decide +kernel), List.mem_of_getElem? (i := 967) (by decide +kernel)⟩
theorem lw_p44 : lw_okq (⟨"OutOrderModel", "kindOf", "(I)I"⟩, 24) := ⟨⟨by decide +kernel, by decide +kernel⟩, List.mem_of_getElem? (i := 724) (by decide +kernel), List.mem_of_getElem? (i := 974) (by decide +kernel), List.mem_of_getElem? (i := 975) (by decide +kernel)⟩
theorem lw_p45 : lw_okq (⟨"OutOrderModel", "rest", "(III)I"⟩, 24) := ⟨⟨by decide +kernel, by decide +kernel⟩, List.mem_of_getElem? (i := 724) (by decide +kernel), List.mem_of_getElem? (i := 986) (by decide +kernel), List.mem_of_getElem? (i := 987) (by decide +kernel)⟩
theorem lw_p46 : lw_okq (⟨"OutOrderModel", "inverse", "(I)I"⟩, 24) := ⟨⟨by decide +kernel, by decide +kernel⟩, List.mem_of_getElem? (i := 724) (by decide +kernel), List.mem_of_getElem? (i := 990) (by decide +kernel), List.mem_of_getElem? (i := 991) (by decide +kernel)⟩
theorem lw_p47 : lw_okq (⟨"OutOrderModel", "placeOf", "(I)I"⟩, 24) := ⟨⟨by decide +kernel, by decide +kernel⟩, List.mem_of_getElem? (i := 724) (by decide +kernel), List.mem_of_getElem? (i := 998) (by decide +kernel), List.mem_of_getElem? (i := 999) (by decide +kernel)⟩
def lw_privs_3 : List (MethodName × Nat) := [(⟨"OutOrderModel", "byLeast", "(Z)V"⟩, 24), (⟨"OutOrderModel", "findLeast", "(Z)V"⟩, 24), (⟨"OutOrderModel", "costOf", "(IIZ)I"⟩, 24), (⟨"OutOrderModel", "around", "(II)I"⟩, 24), (⟨"OutOrderModel", "joined", "(IIZ)I"⟩, 24), (⟨"OutOrderModel", "goThrough", "()V"⟩, 24), (⟨"OutOrderModel", "parent", "(I)I"⟩, 24), (⟨"OutOrderModel", "height", "(I)I"⟩, 24), (⟨"OutOrderModel", "steps", "(III)I"⟩, 24), (⟨"OutOrderModel", "goingLacks", "(I)I"⟩, 24), (⟨"OutOrderModel", "goneBits", "()I"⟩, 24), (⟨"OutOrderModel", "goingAround", "(I)I"⟩, 24), (⟨"OutOrderModel", "kindOf", "(I)I"⟩, 24), (⟨"OutOrderModel", "rest", "(III)I"⟩, 24), (⟨"OutOrderModel", "inverse", "(I)I"⟩, 24), (⟨"OutOrderModel", "placeOf", "(I)I"⟩, 24)]
theorem lw_r3 : ∀ q ∈ lw_privs_3, lw_okq q := List.forall_mem_cons.mpr ⟨lw_p32, List.forall_mem_cons.mpr ⟨lw_p33, List.forall_mem_cons.mpr ⟨lw_p34, List.forall_mem_cons.mpr ⟨lw_p35, List.forall_mem_cons.mpr ⟨lw_p36, List.forall_mem_cons.mpr ⟨lw_p37, List.forall_mem_cons.mpr ⟨lw_p38, List.forall_mem_cons.mpr ⟨lw_p39, List.forall_mem_cons.mpr ⟨lw_p40, List.forall_mem_cons.mpr ⟨lw_p41, List.forall_mem_cons.mpr ⟨lw_p42, List.forall_mem_cons.mpr ⟨lw_p43, List.forall_mem_cons.mpr ⟨lw_p44, List.forall_mem_cons.mpr ⟨lw_p45, List.forall_mem_cons.mpr ⟨lw_p46, List.forall_mem_cons.mpr ⟨lw_p47, fun _ h => absurd h List.not_mem_nil⟩⟩⟩⟩⟩⟩⟩⟩⟩⟩⟩⟩⟩⟩⟩⟩
theorem lw_p48 : lw_okq (⟨"OutOrderModel", "isSolved", "()Z"⟩, 24) := ⟨⟨by decide +kernel, by decide +kernel⟩, List.mem_of_getElem? (i := 724) (by decide +kernel), List.mem_of_getElem? (i := 1018) (by decide +kernel), List.mem_of_getElem? (i := 1019) (by decide +kernel)⟩
theorem lw_p49 : lw_okq (⟨"OutOrderModel", "solveAll", "()V"⟩, 24) := ⟨⟨by decide +kernel, by decide +kernel⟩, List.mem_of_getElem? (i := 724) (by decide +kernel), List.mem_of_getElem? (i := 1022) (by decide +kernel), List.mem_of_getElem? (i := 1023) (by decide +kernel)⟩
theorem lw_p50 : lw_okq (⟨"OutOrderModel", "planFor", "(I)I"⟩, 24) := ⟨⟨by decide +kernel, by decide +kernel⟩, List.mem_of_getElem? (i := 724) (by decide +kernel), List.mem_of_getElem? (i := 1034) (by decide +kernel), List.mem_of_getElem? (i := 1035) (by decide +kernel)⟩
theorem lw_p51 : lw_okq (⟨"OutOrderModel", "mayBeDone", "(II)Z"⟩, 24) := ⟨⟨by decide +kernel, by decide +kernel⟩, List.mem_of_getElem? (i := 724) (by decide +kernel), List.mem_of_getElem? (i := 1038) (by decide +kernel), List.mem_of_getElem? (i := 1039) (by decide +kernel)⟩
def lw_privs_4 : List (MethodName × Nat) := [(⟨"OutOrderModel", "isSolved", "()Z"⟩, 24), (⟨"OutOrderModel", "solveAll", "()V"⟩, 24), (⟨"OutOrderModel", "planFor", "(I)I"⟩, 24), (⟨"OutOrderModel", "mayBeDone", "(II)Z"⟩, 24)]
theorem lw_r4 : ∀ q ∈ lw_privs_4, lw_okq q := List.forall_mem_cons.mpr ⟨lw_p48, List.forall_mem_cons.mpr ⟨lw_p49, List.forall_mem_cons.mpr ⟨lw_p50, List.forall_mem_cons.mpr ⟨lw_p51, fun _ h => absurd h List.not_mem_nil⟩⟩⟩⟩
def lw_privs : List (MethodName × Nat) := lw_privs_1 ++ (lw_privs_2 ++ (lw_privs_3 ++ (lw_privs_4)))
def lw_tbl : List Cond := k2_sels lw_privs ++ tables_1
theorem lw_privs_ok : ∀ q ∈ lw_privs, lw_okq q := by
  show ∀ q ∈ lw_privs_1 ++ (lw_privs_2 ++ (lw_privs_3 ++ (lw_privs_4))), lw_okq q
  exact List.forall_mem_append.mpr ⟨lw_r1, List.forall_mem_append.mpr ⟨lw_r2, List.forall_mem_append.mpr ⟨lw_r3, lw_r4⟩⟩⟩
end
section
def jT_FN : u_T := fun k => match k with
  | 0 => ("OutOrder$FullNet", "net", "LOutOrder$Net;", true)
  | 1 => ("OutOrder$FullNet", "pairs", "[I", true)
  | 2 => ("OutOrder$FullNet", "behind", "[I", true)
  | 3 => ("OutOrder$FullNet", "parents", "[I", true)
  | 4 => ("OutOrder$FullNet", "heights", "[I", true)
  | 5 => ("OutOrder$FullNet", "children", "[I", true)
  | 6 => ("OutOrder$FullNet", "groups", "[I", true)
  | 7 => ("OutOrder$FullNet", "fillCount", "I", false)
  | 8 => ("OutOrder$FullNet", "groupCount", "I", false)
  | _ => ("OutOrder$FullNet", "widest", "I", false)
def jt_FN : Nat → FieldType := fun k => match k with
  | 0 => .object "OutOrder$Net"
  | 1 => .array .int
  | 2 => .array .int
  | 3 => .array .int
  | 4 => .array .int
  | 5 => .array .int
  | 6 => .array .int
  | 7 => .int
  | 8 => .int
  | _ => .int
def jT_GO : u_T := fun k => match k with
  | 0 => ("OutOrder$Going", "net", "LOutOrder$Net;", true)
  | 1 => ("OutOrder$Going", "gone", "[I", true)
  | _ => ("OutOrder$Going", "count", "I", false)
def jt_GO : Nat → FieldType := fun k => match k with
  | 0 => .object "OutOrder$Net"
  | 1 => .array .int
  | _ => .int
def jT_LE : u_T := fun k => match k with
  | 0 => ("OutOrder$Least", "sums", "[I", true)
  | 1 => ("OutOrder$Least", "widths", "[I", true)
  | 2 => ("OutOrder$Least", "nets", "[[I", true)
  | _ => ("OutOrder$Least", "net", "LOutOrder$Net;", true)
def jt_LE : Nat → FieldType := fun k => match k with
  | 0 => .array .int
  | 1 => .array .int
  | 2 => .array (.array .int)
  | _ => .object "OutOrder$Net"
def jT_MO : u_T := fun k => match k with
  | _ => ("OutOrder$Modulus", "p", "I", false)
def jt_MO : Nat → FieldType := fun k => match k with
  | _ => .int
def jT_NE : u_T := fun k => match k with
  | 0 => ("OutOrder$Net", "near", "[I", true)
  | 1 => ("OutOrder$Net", "left", "I", false)
  | _ => ("OutOrder$Net", "n", "I", false)
def jt_NE : Nat → FieldType := fun k => match k with
  | 0 => .array .int
  | 1 => .int
  | _ => .int
def jT_PL : u_T := fun k => match k with
  | _ => ("OutOrder$Plan", "rounds", "[I", true)
def jt_PL : Nat → FieldType := fun k => match k with
  | _ => .array .int
def jT_RO : u_T := fun k => match k with
  | 0 => ("OutOrder$Row", "unknowns", "[I", true)
  | 1 => ("OutOrder$Row", "places", "[I", true)
  | _ => ("OutOrder$Row", "n", "I", false)
def jt_RO : Nat → FieldType := fun k => match k with
  | 0 => .array .int
  | 1 => .array .int
  | _ => .int
def jT_RU : u_T := fun k => match k with
  | _ => ("OutOrder$Rules", "net", "LOutOrder$Net;", true)
def jt_RU : Nat → FieldType := fun k => match k with
  | _ => .object "OutOrder$Net"
def jT_TA : u_T := fun k => match k with
  | 0 => ("OutOrder$Table", "modulus", "LOutOrder$Modulus;", true)
  | 1 => ("OutOrder$Table", "values", "[[I", true)
  | 2 => ("OutOrder$Table", "joins", "[I", true)
  | 3 => ("OutOrder$Table", "sides", "[I", true)
  | 4 => ("OutOrder$Table", "n", "I", false)
  | _ => ("OutOrder$Table", "held", "I", false)
def jt_TA : Nat → FieldType := fun k => match k with
  | 0 => .object "OutOrder$Modulus"
  | 1 => .array (.array .int)
  | 2 => .array .int
  | 3 => .array .int
  | 4 => .int
  | _ => .int
def jT_WO : u_T := fun k => match k with
  | 0 => ("OutOrder$Work", "ones", "[[I", true)
  | 1 => ("OutOrder$Work", "pivots", "[I", true)
  | 2 => ("OutOrder$Work", "inverses", "[I", true)
  | 3 => ("OutOrder$Work", "answers", "[I", true)
  | 4 => ("OutOrder$Work", "worked", "I", false)
  | _ => ("OutOrder$Work", "stuckPlace", "I", false)
def jt_WO : Nat → FieldType := fun k => match k with
  | 0 => .array (.array .int)
  | 1 => .array .int
  | 2 => .array .int
  | 3 => .array .int
  | 4 => .int
  | _ => .int
def jT_OO : u_T := fun k => match k with
  | 0 => ("OutOrder", "numbers", "LOutOrder$Table;", true)
  | 1 => ("OutOrder", "row", "LOutOrder$Row;", true)
  | 2 => ("OutOrder", "rules", "LOutOrder$Rules;", true)
  | 3 => ("OutOrder", "minima", "LOutOrder$Least;", true)
  | 4 => ("OutOrder", "full", "LOutOrder$FullNet;", true)
  | 5 => ("OutOrder", "state", "LOutOrder$Going;", true)
  | 6 => ("OutOrder", "factors", "LOutOrder$Work;", true)
  | 7 => ("OutOrder", "shares", "LOutOrder$Plan;", true)
  | 8 => ("OutOrder", "refusals", "[I", true)
  | 9 => ("OutOrder", "fullKnown", "Z", false)
  | _ => ("OutOrder", "minimaKnown", "Z", false)
def jt_OO : Nat → FieldType := fun k => match k with
  | 0 => .object "OutOrder$Table"
  | 1 => .object "OutOrder$Row"
  | 2 => .object "OutOrder$Rules"
  | 3 => .object "OutOrder$Least"
  | 4 => .object "OutOrder$FullNet"
  | 5 => .object "OutOrder$Going"
  | 6 => .object "OutOrder$Work"
  | 7 => .object "OutOrder$Plan"
  | 8 => .array .int
  | 9 => .boolean
  | _ => .boolean
def jT_MD : u_T := fun k => match k with
  | 0 => ("OutOrderModel", "n", "I", false)
  | 1 => ("OutOrderModel", "p", "I", false)
  | 2 => ("OutOrderModel", "numbers", "[I", true)
  | 3 => ("OutOrderModel", "held", "[Z", true)
  | 4 => ("OutOrderModel", "order", "[I", true)
  | 5 => ("OutOrderModel", "sides", "[I", true)
  | 6 => ("OutOrderModel", "refused", "[I", true)
  | 7 => ("OutOrderModel", "net", "[I", true)
  | 8 => ("OutOrderModel", "behind", "[I", true)
  | 9 => ("OutOrderModel", "fillPairs", "[I", true)
  | 10 => ("OutOrderModel", "fillMany", "I", false)
  | 11 => ("OutOrderModel", "place", "[I", true)
  | 12 => ("OutOrderModel", "leastOf", "[I", true)
  | 13 => ("OutOrderModel", "known", "I", false)
  | 14 => ("OutOrderModel", "gone", "[I", true)
  | 15 => ("OutOrderModel", "goneMany", "I", false)
  | 16 => ("OutOrderModel", "goingNet", "[I", true)
  | 17 => ("OutOrderModel", "now", "[I", true)
  | 18 => ("OutOrderModel", "worked", "I", false)
  | 19 => ("OutOrderModel", "stuck", "I", false)
  | 20 => ("OutOrderModel", "pivots", "[I", true)
  | 21 => ("OutOrderModel", "ones", "[I", true)
  | 22 => ("OutOrderModel", "x", "[I", true)
  | _ => ("OutOrderModel", "rounds", "[I", true)
def jt_MD : Nat → FieldType := fun k => match k with
  | 0 => .int
  | 1 => .int
  | 2 => .array .int
  | 3 => .array .boolean
  | 4 => .array .int
  | 5 => .array .int
  | 6 => .array .int
  | 7 => .array .int
  | 8 => .array .int
  | 9 => .array .int
  | 10 => .int
  | 11 => .array .int
  | 12 => .array .int
  | 13 => .int
  | 14 => .array .int
  | 15 => .int
  | 16 => .array .int
  | 17 => .array .int
  | 18 => .int
  | 19 => .int
  | 20 => .array .int
  | 21 => .array .int
  | 22 => .array .int
  | _ => .array .int
/-- the classes whose objects the worlds hold -/
def jCl : List vw_C := [("OutOrder$FullNet", jT_FN, 10), ("OutOrder$Going", jT_GO, 3), ("OutOrder$Least", jT_LE, 4), ("OutOrder$Modulus", jT_MO, 1), ("OutOrder$Net", jT_NE, 3), ("OutOrder$Plan", jT_PL, 1), ("OutOrder$Row", jT_RO, 3), ("OutOrder$Rules", jT_RU, 1), ("OutOrder$Table", jT_TA, 6), ("OutOrder$Work", jT_WO, 6), ("OutOrder", jT_OO, 11), ("OutOrderModel", jT_MD, 24)]
/-- every word that a call may need: the tables' own and the private methods' -/
def jtbl : List Cond := lw_tbl.filter goodWord
theorem jtbl_in {w : Cond} (n : Nat) (h : tables_1[n]? = some w) (g : goodWord w = true) : w ∈ jtbl := List.mem_filter.mpr ⟨List.mem_append_right _ (List.mem_of_getElem? h), g⟩
theorem jtbl_sel {w : Cond} (n : Nat) (h : (k2_sels lw_privs)[n]? = some w) (g : goodWord w = true) : w ∈ jtbl := List.mem_filter.mpr ⟨List.mem_append_left _ (List.mem_of_getElem? h), g⟩
def jnst : List Cond := [Cond.fieldLinkNest "OutOrder$Table" 34 "OutOrder$Modulus" "p" "I" "OutOrder", Cond.fieldLinkNest "OutOrder" 261 "OutOrder$Modulus" "p" "I" "OutOrder", Cond.fieldLinkNest "OutOrder$Work" 45 "OutOrder$Table" "modulus" "LOutOrder$Modulus;" "OutOrder", Cond.fieldLinkNest "OutOrder" 233 "OutOrder$Table" "modulus" "LOutOrder$Modulus;" "OutOrder", Cond.fieldLinkNest "OutOrder" 86 "OutOrder$Table" "values" "[[I" "OutOrder", Cond.fieldLinkNest "OutOrder$Work" 63 "OutOrder$Table" "values" "[[I" "OutOrder", Cond.fieldLinkNest "OutOrder$Least" 36 "OutOrder$Table" "joins" "[I" "OutOrder", Cond.fieldLinkNest "OutOrder$Net" 25 "OutOrder$Table" "joins" "[I" "OutOrder", Cond.fieldLinkNest "OutOrder$Rules" 69 "OutOrder$Table" "joins" "[I" "OutOrder", Cond.fieldLinkNest "OutOrder" 159 "OutOrder$Table" "joins" "[I" "OutOrder", Cond.fieldLinkNest "OutOrder$Work" 78 "OutOrder$Table" "sides" "[I" "OutOrder", Cond.fieldLinkNest "OutOrder" 230 "OutOrder$Table" "sides" "[I" "OutOrder", Cond.fieldLinkNest "OutOrder$Least" 30 "OutOrder$Table" "n" "I" "OutOrder", Cond.fieldLinkNest "OutOrder$Net" 19 "OutOrder$Table" "n" "I" "OutOrder", Cond.fieldLinkNest "OutOrder$Rules" 22 "OutOrder$Table" "n" "I" "OutOrder", Cond.fieldLinkNest "OutOrder$Work" 40 "OutOrder$Table" "n" "I" "OutOrder", Cond.fieldLinkNest "OutOrder" 104 "OutOrder$Table" "n" "I" "OutOrder", Cond.fieldLinkNest "OutOrder$Rules" 31 "OutOrder$Table" "held" "I" "OutOrder", Cond.fieldLinkNest "OutOrder" 100 "OutOrder$Table" "held" "I" "OutOrder", Cond.fieldLinkNest "OutOrder$FullNet" 53 "OutOrder$Row" "unknowns" "[I" "OutOrder", Cond.fieldLinkNest "OutOrder$Plan" 34 "OutOrder$Row" "unknowns" "[I" "OutOrder", Cond.fieldLinkNest "OutOrder$Work" 66 "OutOrder$Row" "unknowns" "[I" "OutOrder", Cond.fieldLinkNest "OutOrder" 124 "OutOrder$Row" "unknowns" "[I" "OutOrder", Cond.fieldLinkNest "OutOrder" 130 "OutOrder$Row" "places" "[I" "OutOrder", Cond.fieldLinkNest "OutOrder$Plan" 15 "OutOrder$Row" "n" "I" "OutOrder", Cond.fieldLinkNest "OutOrder$FullNet" 48 "OutOrder$Row" "n" "I" "OutOrder", Cond.fieldLinkNest "OutOrder$FullNet" 56 "OutOrder$Net" "near" "[I" "OutOrder", Cond.fieldLinkNest "OutOrder$Rules" 52 "OutOrder$Net" "near" "[I" "OutOrder", Cond.fieldLinkNest "OutOrder$Going" 37 "OutOrder$Net" "near" "[I" "OutOrder", Cond.fieldLinkNest "OutOrder$Least" 98 "OutOrder$Net" "near" "[I" "OutOrder", Cond.fieldLinkNest "OutOrder" 204 "OutOrder$Net" "near" "[I" "OutOrder", Cond.fieldLinkNest "OutOrder$Rules" 28 "OutOrder$Net" "left" "I" "OutOrder", Cond.fieldLinkNest "OutOrder$Going" 34 "OutOrder$Net" "left" "I" "OutOrder", Cond.fieldLinkNest "OutOrder$FullNet" 85 "OutOrder$Net" "n" "I" "OutOrder", Cond.fieldLinkNest "OutOrder$Rules" 48 "OutOrder$Net" "n" "I" "OutOrder", Cond.fieldLinkNest "OutOrder$Least" 89 "OutOrder$Net" "n" "I" "OutOrder", Cond.fieldLinkNest "OutOrder" 172 "OutOrder$Least" "sums" "[I" "OutOrder", Cond.fieldLinkNest "OutOrder" 178 "OutOrder$Least" "widths" "[I" "OutOrder", Cond.fieldLinkNest "OutOrder" 127 "OutOrder$FullNet" "pairs" "[I" "OutOrder", Cond.fieldLinkNest "OutOrder" 133 "OutOrder$FullNet" "behind" "[I" "OutOrder", Cond.fieldLinkNest "OutOrder" 141 "OutOrder$FullNet" "parents" "[I" "OutOrder", Cond.fieldLinkNest "OutOrder$Plan" 37 "OutOrder$FullNet" "heights" "[I" "OutOrder", Cond.fieldLinkNest "OutOrder" 144 "OutOrder$FullNet" "heights" "[I" "OutOrder", Cond.fieldLinkNest "OutOrder$Plan" 29 "OutOrder$FullNet" "children" "[I" "OutOrder", Cond.fieldLinkNest "OutOrder" 147 "OutOrder$FullNet" "children" "[I" "OutOrder", Cond.fieldLinkNest "OutOrder" 156 "OutOrder$FullNet" "groups" "[I" "OutOrder", Cond.fieldLinkNest "OutOrder" 118 "OutOrder$FullNet" "fillCount" "I" "OutOrder", Cond.fieldLinkNest "OutOrder" 153 "OutOrder$FullNet" "groupCount" "I" "OutOrder", Cond.fieldLinkNest "OutOrder" 150 "OutOrder$FullNet" "widest" "I" "OutOrder", Cond.fieldLinkNest "OutOrder" 185 "OutOrder$Going" "net" "LOutOrder$Net;" "OutOrder", Cond.fieldLinkNest "OutOrder" 264 "OutOrder$Going" "count" "I" "OutOrder", Cond.fieldLinkNest "OutOrder" 221 "OutOrder$Work" "pivots" "[I" "OutOrder", Cond.fieldLinkNest "OutOrder" 249 "OutOrder$Work" "answers" "[I" "OutOrder", Cond.fieldLinkNest "OutOrder" 215 "OutOrder$Work" "worked" "I" "OutOrder", Cond.fieldLinkNest "OutOrder" 218 "OutOrder$Work" "stuckPlace" "I" "OutOrder", Cond.fieldLinkNest "OutOrder" 258 "OutOrder$Plan" "rounds" "[I" "OutOrder"]
def jnq : Cond → Bool
  | .fieldLinkNest _ _ _ _ _ _ => true
  | _ => false
theorem jnst_ok : jnst.all jnq = true := by decide +kernel
theorem jnst_in : ∀ w ∈ jnst, w ∈ lw_tbl := by
  have h : jnst.all (fun w => decide (w ∈ tables_1)) = true := by decide +kernel
  intro w hw
  exact List.mem_append_right _ (of_decide_eq_true (List.all_eq_true.mp h w hw))
def jkL : List Nat := [10, 8, 3, 1002, 1000, 1000, 1000, 1000, 1000, 1000, 1000, 1000, 1000, 1000, 1000, 1000, 1000, 1000, 1000, 1000, 1000, 1000, 1000, 1000, 1000, 1000, 1000, 1000, 1000, 1000, 6, 1000, 1000, 7, 4, 1000, 2, 1000, 1000, 1002, 1000, 1000, 1000, 1000, 1000, 1000, 1000, 1000, 1000, 1000, 1000, 1000, 1000, 4, 1000, 0, 4, 1000, 1000, 1000, 1000, 1000, 1000, 1000, 1, 4, 1000, 1000, 9, 1002, 1000, 1000, 1000, 1000, 1000, 1000, 1000, 1000, 1000, 1000, 1000, 1000, 1000, 1000, 1000, 1000, 1000, 1000, 1000, 1000, 1000, 1000, 1000, 1000, 1000, 1000, 1000, 5, 1000, 1000, 11, 1000, 1001, 1000, 1000, 1000, 1000, 1000, 1000, 1000, 1000, 1000, 1000, 1000, 1000, 1000, 1000, 1000]
def jlL : List Nat := [0, 0, 0, 24, 24, 24, 24, 24, 24, 24, 24, 24, 24, 24, 24, 24, 24, 24, 24, 24, 24, 24, 24, 24, 24, 24, 24, 24, 24, 24, 0, 24, 24, 0, 0, 24, 0, 4096, 4096, 13, 12, 12, 12, 12, 12, 12, 12, 12, 12, 12, 12, 12, 12, 0, 24, 0, 0, 24, 288, 24, 24, 24, 24, 24, 0, 0, 24, 24, 0, 24, 24, 24, 24, 24, 24, 24, 24, 24, 24, 24, 24, 24, 24, 24, 24, 24, 24, 24, 24, 24, 24, 24, 24, 24, 24, 24, 24, 0, 24, 7, 0, 576, 24, 24, 24, 7, 24, 24, 300, 24, 4096, 24, 600, 24, 24, 576, 24, 24]
def jwL : List Nat := [0, 0, 0, 4, 0, 0, 0, 0, 0, 0, 0, 0, 0, 0, 0, 0, 0, 0, 0, 0, 0, 0, 0, 0, 0, 0, 0, 0, 0, 0, 0, 0, 0, 0, 0, 0, 0, 0, 0, 40, 0, 0, 0, 0, 0, 0, 0, 0, 0, 0, 0, 0, 0, 0, 0, 0, 0, 0, 0, 0, 0, 0, 0, 0, 0, 0, 0, 0, 0, 70, 0, 0, 0, 0, 0, 0, 0, 0, 0, 0, 0, 0, 0, 0, 0, 0, 0, 0, 0, 0, 0, 0, 0, 0, 0, 0, 0, 0, 0, 0, 0, 0, 0, 0, 0, 0, 0, 0, 0, 0, 0, 0, 0, 0, 0, 0, 0, 0]
def jrL : List (List Nat) := [[1, 30, 33, 36, 55, 64, 68, 97, 99, 0, 0], [2, 3, 28, 29, 0, 0], [0], [], [], [], [], [], [], [], [], [], [], [], [], [], [], [], [], [], [], [], [], [], [], [], [], [], [], [], [31, 32, 0], [], [], [34], [35, 0, 0], [], [37, 38, 39, 53], [], [], [], [], [], [], [], [], [], [], [], [], [], [], [], [], [54, 0, 0], [], [56, 58, 59, 60, 61, 62, 63, 0, 0, 0], [57, 0, 0], [], [], [], [], [], [], [], [65, 67, 0], [66, 0, 0], [], [], [69, 94, 95, 96, 0, 0], [], [], [], [], [], [], [], [], [], [], [], [], [], [], [], [], [], [], [], [], [], [], [], [], [], [], [], [], [98], [], [], [0, 0, 101, 102, 103, 104, 105, 106, 107, 108, 0, 109, 110, 0, 111, 0, 112, 113, 0, 0, 114, 115, 116, 117], [], [], [], [], [], [], [], [], [], [], [], [], [], [], [], [], []]
def jnL : List Nat := [10, 3, 4, 1, 3, 1, 3, 1, 6, 6, 11, 24]
def jqL : List (List Bool) := [[true, true, true, true, true, true, true, false, false, false], [true, true, false], [true, true, true, true], [false], [true, false, false], [true], [true, true, false], [true], [true, true, true, true, false, false], [true, true, true, true, false, false], [true, true, true, true, true, true, true, true, true, false, false], [false, false, true, true, true, true, true, true, true, true, false, true, true, false, true, false, true, true, false, false, true, true, true, true]]
/-- the kind of a cell: a class's number, 1000 int[], 1001 boolean[], 1002 int[][] -/
def jk (i : Nat) : Nat := jkL.getD i 9999
def jl (i : Nat) : Nat := jlL.getD i 0
def jw (i j : Nat) : Nat := jwL.getD i 0 + j
def jr (i k : Nat) : Nat := (jrL.getD i []).getD k 0
def jn (c : Nat) : Nat := jnL.getD c 0
def jq (c k : Nat) : Bool := (jqL.getD c []).getD k false
def jLX : List Nat := List.range 100
def jLM : List Nat := (List.range 18).map (· + 100)
/-- what is known of a class of the list -/
def jcl (ci : Nat) (C : String) (F : u_T) (N : Nat) (ty : Nat → FieldType) : Prop := jCl[ci]? = some (C, F, N) ∧ N = jn ci ∧ ci ≠ 1000 ∧ ci ≠ 1001 ∧ ci ≠ 1002 ∧ (∀ w ∈ u_ws C F N, w ∈ jtbl) ∧ (∀ k, k < N → parseFieldDescriptor (F k).2.2.1 = some (ty k)) ∧ (∀ a, a < N → ∀ b, b < N → a ≠ b → (F a).2.1 ≠ (F b).2.1)
theorem jws_FN : ∀ w ∈ u_ws "OutOrder$FullNet" jT_FN 10, w ∈ jtbl := by
  have e : u_ws "OutOrder$FullNet" jT_FN 10 = ([194, 196, 198, 200, 202, 204, 206, 208, 210, 212] : List Nat).filterMap (fun i => tables_1[i]?) := by decide +kernel
  have g : (u_ws "OutOrder$FullNet" jT_FN 10).all goodWord = true := by decide +kernel
  intro w hw
  have h1 := List.all_eq_true.mp g w hw
  rw [e] at hw
  obtain ⟨i, -, hi⟩ := List.mem_filterMap.mp hw
  exact jtbl_in i hi h1
theorem jcl_FN : jcl 0 "OutOrder$FullNet" jT_FN 10 jt_FN := ⟨rfl, rfl, by decide, by decide, by decide, jws_FN, by decide +kernel, by decide +kernel⟩
theorem jws_GO : ∀ w ∈ u_ws "OutOrder$Going" jT_GO 3, w ∈ jtbl := by
  have e : u_ws "OutOrder$Going" jT_GO 3 = ([228, 230, 232] : List Nat).filterMap (fun i => tables_1[i]?) := by decide +kernel
  have g : (u_ws "OutOrder$Going" jT_GO 3).all goodWord = true := by decide +kernel
  intro w hw
  have h1 := List.all_eq_true.mp g w hw
  rw [e] at hw
  obtain ⟨i, -, hi⟩ := List.mem_filterMap.mp hw
  exact jtbl_in i hi h1
theorem jcl_GO : jcl 1 "OutOrder$Going" jT_GO 3 jt_GO := ⟨rfl, rfl, by decide, by decide, by decide, jws_GO, by decide +kernel, by decide +kernel⟩
theorem jws_LE : ∀ w ∈ u_ws "OutOrder$Least" jT_LE 4, w ∈ jtbl := by
  have e : u_ws "OutOrder$Least" jT_LE 4 = ([156, 158, 160, 162] : List Nat).filterMap (fun i => tables_1[i]?) := by decide +kernel
  have g : (u_ws "OutOrder$Least" jT_LE 4).all goodWord = true := by decide +kernel
  intro w hw
  have h1 := List.all_eq_true.mp g w hw
  rw [e] at hw
  obtain ⟨i, -, hi⟩ := List.mem_filterMap.mp hw
  exact jtbl_in i hi h1
theorem jcl_LE : jcl 2 "OutOrder$Least" jT_LE 4 jt_LE := ⟨rfl, rfl, by decide, by decide, by decide, jws_LE, by decide +kernel, by decide +kernel⟩
theorem jws_MO : ∀ w ∈ u_ws "OutOrder$Modulus" jT_MO 1, w ∈ jtbl := by
  have e : u_ws "OutOrder$Modulus" jT_MO 1 = ([40] : List Nat).filterMap (fun i => tables_1[i]?) := by decide +kernel
  have g : (u_ws "OutOrder$Modulus" jT_MO 1).all goodWord = true := by decide +kernel
  intro w hw
  have h1 := List.all_eq_true.mp g w hw
  rw [e] at hw
  obtain ⟨i, -, hi⟩ := List.mem_filterMap.mp hw
  exact jtbl_in i hi h1
theorem jcl_MO : jcl 3 "OutOrder$Modulus" jT_MO 1 jt_MO := ⟨rfl, rfl, by decide, by decide, by decide, jws_MO, by decide +kernel, by decide +kernel⟩
theorem jws_NE : ∀ w ∈ u_ws "OutOrder$Net" jT_NE 3, w ∈ jtbl := by
  have e : u_ws "OutOrder$Net" jT_NE 3 = ([130, 132, 134] : List Nat).filterMap (fun i => tables_1[i]?) := by decide +kernel
  have g : (u_ws "OutOrder$Net" jT_NE 3).all goodWord = true := by decide +kernel
  intro w hw
  have h1 := List.all_eq_true.mp g w hw
  rw [e] at hw
  obtain ⟨i, -, hi⟩ := List.mem_filterMap.mp hw
  exact jtbl_in i hi h1
theorem jcl_NE : jcl 4 "OutOrder$Net" jT_NE 3 jt_NE := ⟨rfl, rfl, by decide, by decide, by decide, jws_NE, by decide +kernel, by decide +kernel⟩
theorem jws_PL : ∀ w ∈ u_ws "OutOrder$Plan" jT_PL 1, w ∈ jtbl := by
  have e : u_ws "OutOrder$Plan" jT_PL 1 = ([273] : List Nat).filterMap (fun i => tables_1[i]?) := by decide +kernel
  have g : (u_ws "OutOrder$Plan" jT_PL 1).all goodWord = true := by decide +kernel
  intro w hw
  have h1 := List.all_eq_true.mp g w hw
  rw [e] at hw
  obtain ⟨i, -, hi⟩ := List.mem_filterMap.mp hw
  exact jtbl_in i hi h1
theorem jcl_PL : jcl 5 "OutOrder$Plan" jT_PL 1 jt_PL := ⟨rfl, rfl, by decide, by decide, by decide, jws_PL, by decide +kernel, by decide +kernel⟩
theorem jws_RO : ∀ w ∈ u_ws "OutOrder$Row" jT_RO 3, w ∈ jtbl := by
  have e : u_ws "OutOrder$Row" jT_RO 3 = ([98, 100, 102] : List Nat).filterMap (fun i => tables_1[i]?) := by decide +kernel
  have g : (u_ws "OutOrder$Row" jT_RO 3).all goodWord = true := by decide +kernel
  intro w hw
  have h1 := List.all_eq_true.mp g w hw
  rw [e] at hw
  obtain ⟨i, -, hi⟩ := List.mem_filterMap.mp hw
  exact jtbl_in i hi h1
theorem jcl_RO : jcl 6 "OutOrder$Row" jT_RO 3 jt_RO := ⟨rfl, rfl, by decide, by decide, by decide, jws_RO, by decide +kernel, by decide +kernel⟩
theorem jws_RU : ∀ w ∈ u_ws "OutOrder$Rules" jT_RU 1, w ∈ jtbl := by
  have e : u_ws "OutOrder$Rules" jT_RU 1 = ([138] : List Nat).filterMap (fun i => tables_1[i]?) := by decide +kernel
  have g : (u_ws "OutOrder$Rules" jT_RU 1).all goodWord = true := by decide +kernel
  intro w hw
  have h1 := List.all_eq_true.mp g w hw
  rw [e] at hw
  obtain ⟨i, -, hi⟩ := List.mem_filterMap.mp hw
  exact jtbl_in i hi h1
theorem jcl_RU : jcl 7 "OutOrder$Rules" jT_RU 1 jt_RU := ⟨rfl, rfl, by decide, by decide, by decide, jws_RU, by decide +kernel, by decide +kernel⟩
theorem jws_TA : ∀ w ∈ u_ws "OutOrder$Table" jT_TA 6, w ∈ jtbl := by
  have e : u_ws "OutOrder$Table" jT_TA 6 = ([68, 70, 72, 74, 76, 78] : List Nat).filterMap (fun i => tables_1[i]?) := by decide +kernel
  have g : (u_ws "OutOrder$Table" jT_TA 6).all goodWord = true := by decide +kernel
  intro w hw
  have h1 := List.all_eq_true.mp g w hw
  rw [e] at hw
  obtain ⟨i, -, hi⟩ := List.mem_filterMap.mp hw
  exact jtbl_in i hi h1
theorem jcl_TA : jcl 8 "OutOrder$Table" jT_TA 6 jt_TA := ⟨rfl, rfl, by decide, by decide, by decide, jws_TA, by decide +kernel, by decide +kernel⟩
theorem jws_WO : ∀ w ∈ u_ws "OutOrder$Work" jT_WO 6, w ∈ jtbl := by
  have e : u_ws "OutOrder$Work" jT_WO 6 = ([252, 254, 256, 258, 260, 262] : List Nat).filterMap (fun i => tables_1[i]?) := by decide +kernel
  have g : (u_ws "OutOrder$Work" jT_WO 6).all goodWord = true := by decide +kernel
  intro w hw
  have h1 := List.all_eq_true.mp g w hw
  rw [e] at hw
  obtain ⟨i, -, hi⟩ := List.mem_filterMap.mp hw
  exact jtbl_in i hi h1
theorem jcl_WO : jcl 9 "OutOrder$Work" jT_WO 6 jt_WO := ⟨rfl, rfl, by decide, by decide, by decide, jws_WO, by decide +kernel, by decide +kernel⟩
theorem jws_OO : ∀ w ∈ u_ws "OutOrder" jT_OO 11, w ∈ jtbl := by
  have e : u_ws "OutOrder" jT_OO 11 = ([323, 325, 327, 329, 331, 333, 335, 337, 339, 341, 343] : List Nat).filterMap (fun i => tables_1[i]?) := by decide +kernel
  have g : (u_ws "OutOrder" jT_OO 11).all goodWord = true := by decide +kernel
  intro w hw
  have h1 := List.all_eq_true.mp g w hw
  rw [e] at hw
  obtain ⟨i, -, hi⟩ := List.mem_filterMap.mp hw
  exact jtbl_in i hi h1
theorem jcl_OO : jcl 10 "OutOrder" jT_OO 11 jt_OO := ⟨rfl, rfl, by decide, by decide, by decide, jws_OO, by decide +kernel, by decide +kernel⟩
theorem jws_MD : ∀ w ∈ u_ws "OutOrderModel" jT_MD 24, w ∈ jtbl := by
  have e : u_ws "OutOrderModel" jT_MD 24 = ([753, 755, 757, 759, 761, 763, 765, 767, 769, 771, 773, 775, 777, 779, 781, 783, 785, 787, 789, 791, 793, 795, 797, 799] : List Nat).filterMap (fun i => tables_1[i]?) := by decide +kernel
  have g : (u_ws "OutOrderModel" jT_MD 24).all goodWord = true := by decide +kernel
  intro w hw
  have h1 := List.all_eq_true.mp g w hw
  rw [e] at hw
  obtain ⟨i, -, hi⟩ := List.mem_filterMap.mp hw
  exact jtbl_in i hi h1
theorem jcl_MD : jcl 11 "OutOrderModel" jT_MD 24 jt_MD := ⟨rfl, rfl, by decide, by decide, by decide, jws_MD, by decide +kernel, by decide +kernel⟩
end
section
/-! ===== THE J LAYER: a method of this system over a memory of numbers alone. No call of the landed class makes a cell: every reference is known by the layout (jr, jw), so a state is: which int stands at place k of cell i ===== -/
abbrev jM : Type := Nat → Nat → Int32
/-- I, but v at place k of cell i -/
def jwr (I : jM) (i k : Nat) (v : Int32) : jM := fun a => if a = i then upd (I a) k v else I a
theorem jwr_same (I : jM) (i k : Nat) (v : Int32) : jwr I i k v i = upd (I i) k v := if_pos rfl
theorem jwr_ne {I : jM} {i k : Nat} {v : Int32} {a : Nat} (h : a ≠ i) : jwr I i k v a = I a := if_neg h
/-- I, but the row f in cell i -/
def jrow (I : jM) (i : Nat) (f : Nat → Int32) : jM := fun a => if a = i then f else I a
theorem jrow_same (I : jM) (i : Nat) (f : Nat → Int32) : jrow I i f i = f := if_pos rfl
theorem jrow_ne {I : jM} {i : Nat} {f : Nat → Int32} {a : Nat} (h : a ≠ i) : jrow I i f a = I a := if_neg h
/-- slots, array classes (int[], boolean[], int[][]), addresses, cells -/
abbrev jE : Type := va_G × (ClassId × ClassId × ClassId) × (Nat → Nat) × List Nat
def jfs (ad : Nat → Nat) (i : Nat) (I : jM) : List Value := (List.range (jn (jk i))).map (fun k => if jq (jk i) k = true then Value.ref (ad (jr i k)) else Value.int (I i k))
def jcell (g : ClassId × ClassId × ClassId) (ad : Nat → Nat) (i : Nat) (I : jM) : va_E :=
  if jk i = 1000 then .inl (g.1, jl i, .inl (I i))
  else if jk i = 1001 then .inl (g.2.1, jl i, .inl (I i))
  else if jk i = 1002 then .inl (g.2.2, jl i, .inr (.inr (.inr (.inr (fun j => if j < jl i then some (ad (jw i j)) else none)))))
  else .inr (jk i, jfs ad i I)
theorem jcell_congr {g : ClassId × ClassId × ClassId} {ad : Nat → Nat} {i : Nat} {I I' : jM} (h : I i = I' i) : jcell g ad i I = jcell g ad i I' := by
  unfold jcell jfs; rw [h]
def jworld (E : jE) (I : jM) : va_W := E.2.2.2.map (fun i => (E.2.2.1 i, jcell E.2.1 E.2.2.1 i I))
def jtys (E : jE) : List (ClassId × FieldType) := [(E.2.1.1, .int), (E.2.1.2.1, .boolean), (E.2.1.2.2, .array .int)]
def jA (E : jE) : Nat → Prop := fun q => ∃ i, i ∈ E.2.2.2 ∧ E.2.2.1 i = q
def jOK (E : jE) : Prop := E.2.2.2.Nodup ∧ ∀ i ∈ E.2.2.2, ∀ j ∈ E.2.2.2, E.2.2.1 i = E.2.2.1 j → i = j
def jN (U : State) : Prop := ∀ w ∈ jnst, va_Nw w U
theorem jN.same {u U : State} (h : u.vm = U.vm) (H : jN u) : jN U := fun w hw => by
  have h2 := List.all_eq_true.mp jnst_ok w hw
  have h3 := H w hw
  cases w <;> first | exact va_Nw.same rfl h h3 | (exfalso; revert h2; simp [jnq])
theorem jN.warm {u U : State} (h : u.WarmedH U.vm) (H : jN u) : jN U := fun w hw => by
  have h2 := List.all_eq_true.mp jnst_ok w hw
  have h3 := H w hw
  cases w <;> first | exact va_Nw.warmF h h3 | (exfalso; revert h2; simp [jnq])
theorem jworld_get {E : jE} {I : jM} {q i : Nat} (h : E.2.2.2[q]? = some i) : (jworld E I)[q]? = some (E.2.2.1 i, jcell E.2.1 E.2.2.1 i I) := by
  unfold jworld; rw [List.getElem?_map, h]; rfl
theorem jworld_inv {E : jE} {I : jM} {q : Nat} {x : Nat × va_E} (h : (jworld E I)[q]? = some x) : ∃ i, E.2.2.2[q]? = some i ∧ x = (E.2.2.1 i, jcell E.2.1 E.2.2.1 i I) := by
  unfold jworld at h
  rw [List.getElem?_map] at h
  cases hq : E.2.2.2[q]? with
  | none => rw [hq] at h; cases h
  | some i => rw [hq] at h; exact ⟨i, rfl, (Option.some.inj h).symm⟩
theorem jmem_get {L : List Nat} {i : Nat} (h : i ∈ L) : ∃ q : Nat, L[q]? = some i := by
  obtain ⟨q, hq, e⟩ := List.getElem_of_mem h
  exact ⟨q, by rw [List.getElem?_eq_getElem hq, e]⟩
theorem jworld_D {E : jE} (h : jOK E) (I : jM) : va_D (jA E) (jworld E I) := by
  refine ⟨fun i j p q hi hj hpq => ?_, fun k q hk => ?_⟩
  · obtain ⟨a, ha, rfl⟩ := jworld_inv hi
    obtain ⟨b, hb, rfl⟩ := jworld_inv hj
    have hab := h.2 a (List.mem_of_getElem? ha) b (List.mem_of_getElem? hb) hpq
    subst hab
    exact (List.getElem?_inj (List.getElem?_eq_some_iff.mp ha).1 h.1).mp (ha.trans hb.symm)
  · obtain ⟨a, ha, rfl⟩ := jworld_inv hk
    exact ⟨a, List.mem_of_getElem? ha, rfl⟩
/-- one cell written: the world of the new memory -/
theorem jworld_set {E : jE} (h : jOK E) {I I' : jM} {q i : Nat} (hq : E.2.2.2[q]? = some i) (ho : ∀ a, a ≠ i → I' a = I a) {x : va_E} (hx : x = jcell E.2.1 E.2.2.1 i I') : (jworld E I).set q (E.2.2.1 i, x) = jworld E I' := by
  subst hx
  apply List.ext_getElem?
  intro n
  rw [List.getElem?_set]
  by_cases hn : q = n
  · subst hn
    have hl : q < (jworld E I).length := by
      unfold jworld; rw [List.length_map]; exact (List.getElem?_eq_some_iff.mp hq).1
    rw [if_pos rfl, if_pos hl, jworld_get hq]
  · rw [if_neg hn]
    unfold jworld
    rw [List.getElem?_map, List.getElem?_map]
    cases hb : E.2.2.2[n]? with
    | none => rfl
    | some b =>
      have hne : b ≠ i := fun e => by
        subst e
        exact hn ((List.getElem?_inj (List.getElem?_eq_some_iff.mp hq).1 h.1).mp (hq.trans hb.symm))
      show some (E.2.2.1 b, jcell E.2.1 E.2.2.1 b I) = some (E.2.2.1 b, jcell E.2.1 E.2.2.1 b I')
      rw [jcell_congr (ho b hne)]
theorem jcell_int {g : ClassId × ClassId × ClassId} {ad : Nat → Nat} {i : Nat} {I : jM} (h : jk i = 1000) : jcell g ad i I = .inl (g.1, jl i, .inl (I i)) := if_pos h
theorem jcell_boo {g : ClassId × ClassId × ClassId} {ad : Nat → Nat} {i : Nat} {I : jM} (h : jk i = 1001) : jcell g ad i I = .inl (g.2.1, jl i, .inl (I i)) := by
  unfold jcell; rw [if_neg (by rw [h]; decide), if_pos h]
theorem jcell_arr {g : ClassId × ClassId × ClassId} {ad : Nat → Nat} {i : Nat} {I : jM} (h : jk i = 1002) : jcell g ad i I = .inl (g.2.2, jl i, .inr (.inr (.inr (.inr (fun j => if j < jl i then some (ad (jw i j)) else none))))) := by
  unfold jcell; rw [if_neg (by rw [h]; decide), if_neg (by rw [h]; decide), if_pos h]
theorem jcell_obj {g : ClassId × ClassId × ClassId} {ad : Nat → Nat} {i ci : Nat} {I : jM} (h : jk i = ci) (h0 : ci ≠ 1000) (h1 : ci ≠ 1001) (h2 : ci ≠ 1002) : jcell g ad i I = .inr (ci, jfs ad i I) := by
  unfold jcell; subst h; rw [if_neg h0, if_neg h1, if_neg h2]
theorem jfs_len {ad : Nat → Nat} {i ci : Nat} {I : jM} (h : jk i = ci) : (jfs ad i I).length = jn ci := by
  unfold jfs; rw [List.length_map, List.length_range, h]
theorem jfs_get {ad : Nat → Nat} {i ci k : Nat} {I : jM} (h : jk i = ci) (hk : k < jn ci) : (jfs ad i I)[k]? = some (if jq ci k = true then Value.ref (ad (jr i k)) else Value.int (I i k)) := by
  subst h
  unfold jfs
  rw [List.getElem?_map, List.getElem?_range hk]
  rfl
theorem jfs_set {ad : Nat → Nat} {i ci k : Nat} {I : jM} {v : Int32} (h : jk i = ci) (hk : k < jn ci) (hq : jq ci k = false) : (jfs ad i I).set k (.int v) = jfs ad i (jwr I i k v) := by
  subst h
  apply List.ext_getElem?
  intro n
  rw [List.getElem?_set]
  by_cases hn : k = n
  · subst hn
    rw [if_pos rfl, if_pos (by rw [jfs_len rfl]; exact hk), jfs_get rfl hk, hq, jwr_same]
    simp [upd]
  · rw [if_neg hn]
    by_cases hl : n < jn (jk i)
    · rw [jfs_get rfl hl, jfs_get rfl hl, jwr_same]
      simp [upd, Ne.symm hn]
    · rw [List.getElem?_eq_none (by rw [jfs_len rfl]; omega), List.getElem?_eq_none (by rw [jfs_len rfl]; omega)]
/-- an object of class ci; an int array, a boolean array, an array of int arrays, of n places -/
def jOB (E : jE) (ci i : Nat) : Prop := i ∈ E.2.2.2 ∧ jk i = ci
def jAI (E : jE) (n i : Nat) : Prop := i ∈ E.2.2.2 ∧ jk i = 1000 ∧ jl i = n
def jAB (E : jE) (n i : Nat) : Prop := i ∈ E.2.2.2 ∧ jk i = 1001 ∧ jl i = n
def jAA (E : jE) (n i : Nat) : Prop := i ∈ E.2.2.2 ∧ jk i = 1002 ∧ jl i = n
/-- the machine at work: program, launch, environment, room, start, method, arguments, frames below, method's tables, code -/
abbrev jZ : Type := Program × Launch × Env × Room × State × MethodId × Array Value × List Frame × Method × Code
abbrev jZp (Z : jZ) : Program := Z.1
abbrev jZl (Z : jZ) : Launch := Z.2.1
abbrev jZe (Z : jZ) : Env := Z.2.2.1
abbrev jZR (Z : jZ) : Room := Z.2.2.2.1
abbrev jZs (Z : jZ) : State := Z.2.2.2.2.1
abbrev jZm (Z : jZ) : MethodId := Z.2.2.2.2.2.1
abbrev jZa (Z : jZ) : Array Value := Z.2.2.2.2.2.2.1
abbrev jZb (Z : jZ) : List Frame := Z.2.2.2.2.2.2.2.1
abbrev jZh (Z : jZ) : Method := Z.2.2.2.2.2.2.2.2.1
abbrev jZc (Z : jZ) : Code := Z.2.2.2.2.2.2.2.2.2
def jC (Z : jZ) (E : jE) (cc : ByteArray) (nL : Nat) (own : String) (fR lR : Nat) : Prop :=
  (jZp Z).tables.exec = Jvm.exec ∧ (jZc Z).code = cc ∧ (jZc Z).maxLocals = nL ∧ (jZs Z).vm.findClass own = some (jZm Z).cls ∧ (∀ w ∈ jtbl, w.before (jZa Z) (jZs Z) = true) ∧ va_K E.1 jCl (jtys E) (jZs Z) ∧ jN (jZs Z) ∧ jOK E ∧ (jZh Z).locks = false ∧ fR ≤ (jZR Z).frames ∧ lR ≤ (jZR Z).locals
theorem jC.x {Z E cc nL own fR lR} (C : jC Z E cc nL own fR lR) : (jZp Z).tables.exec = Jvm.exec := C.1
theorem jC.b {Z E cc nL own fR lR} (C : jC Z E cc nL own fR lR) : (jZc Z).code = cc := C.2.1
theorem jC.ml {Z E cc nL own fR lR} (C : jC Z E cc nL own fR lR) : (jZc Z).maxLocals = nL := C.2.2.1
theorem jC.own {Z E cc nL own fR lR} (C : jC Z E cc nL own fR lR) : (jZs Z).vm.findClass own = some (jZm Z).cls := C.2.2.2.1
theorem jC.ts {Z E cc nL own fR lR} (C : jC Z E cc nL own fR lR) : ∀ w ∈ jtbl, w.before (jZa Z) (jZs Z) = true := C.2.2.2.2.1
theorem jC.K {Z E cc nL own fR lR} (C : jC Z E cc nL own fR lR) : va_K E.1 jCl (jtys E) (jZs Z) := C.2.2.2.2.2.1
theorem jC.N {Z E cc nL own fR lR} (C : jC Z E cc nL own fR lR) : jN (jZs Z) := C.2.2.2.2.2.2.1
theorem jC.ok {Z E cc nL own fR lR} (C : jC Z E cc nL own fR lR) : jOK E := C.2.2.2.2.2.2.2.1
theorem jC.lk {Z E cc nL own fR lR} (C : jC Z E cc nL own fR lR) : (jZh Z).locks = false := C.2.2.2.2.2.2.2.2.1
theorem jC.fr {Z E cc nL own fR lR} (C : jC Z E cc nL own fR lR) : fR ≤ (jZR Z).frames := C.2.2.2.2.2.2.2.2.2.1
theorem jC.lo {Z E cc nL own fR lR} (C : jC Z E cc nL own fR lR) : lR ≤ (jZR Z).locals := C.2.2.2.2.2.2.2.2.2.2
/-- THE JUDGEMENT: at pc, with these locals, this stack and this memory, the machine comes to Q -/
def jJ (Z : jZ) (E : jE) (nL : Nat) (Q : State → Prop) (pc : Nat) (lv : List (Nat × Value)) (st : List Value) (I : jM) : Prop :=
  ∀ (ls : Array Slot) (H : Heap) (locs : List Loc), lv_has ls nL lv → va_P E.1 jCl (jworld E I) H → va_S (jA E) (jZs Z).heap H locs → W (jZp Z) (jZl Z) (jZe Z) (jZR Z) (jZs Z) (jZm Z) (jZa Z) (jZb Z) (jZh Z) (jZc Z) H locs 0 0 Q (F0 (jZm Z) pc ls st)
section JR
variable {Z : jZ} {E : jE} {cc : ByteArray} {nL : Nat} {own : String} {fR lR : Nat} {Q : State → Prop} {pc : Nat} {lv : List (Nat × Value)} {st : List Value} {I : jM}
theorem j_iconst (C : jC Z E cc nL own fR lR) {n : Int} {v : Int32} (d : decode cc pc = .ok (.iconst n, 1)) (hv : Int32.ofInt n = v) (h : jJ Z E nL Q (pc + 1) lv (.int v :: st) I) : jJ Z E nL Q pc lv st I := fun ls H locs hl hP hS => lv_iconst C.x C.b d hv (h ls H locs hl hP hS)
theorem j_bipush (C : jC Z E cc nL own fR lR) {n : Int} {v : Int32} (d : decode cc pc = .ok (.bipush n, 2)) (hv : (Int8.ofInt n).toInt32 = v) (h : jJ Z E nL Q (pc + 2) lv (.int v :: st) I) : jJ Z E nL Q pc lv st I := fun ls H locs hl hP hS => lv_bipush C.x C.b d hv (h ls H locs hl hP hS)
theorem j_sipush (C : jC Z E cc nL own fR lR) {n : Int} {v : Int32} (d : decode cc pc = .ok (.sipush n, 3)) (hv : (Int16.ofInt n).toInt32 = v) (h : jJ Z E nL Q (pc + 3) lv (.int v :: st) I) : jJ Z E nL Q pc lv st I := fun ls H locs hl hP hS => lv_sipush C.x C.b d hv (h ls H locs hl hP hS)
theorem j_ldcw (C : jC Z E cc nL own fR lR) {n : Nat} {v : Int32} (d : decode cc pc = .ok (.ldc_w n, 3)) (hw : Cond.constant own n v ∈ jtbl) (h : jJ Z E nL Q (pc + 3) lv (.int v :: st) I) : jJ Z E nL Q pc lv st I := fun ls H locs hl hP hS => lv_ldcw C.x C.b C.own (C.ts _ hw) d (h ls H locs hl hP hS)
theorem j_lconst (C : jC Z E cc nL own fR lR) {n : Fin 2} {v : Int64} (d : decode cc pc = .ok (.lconst n, 1)) (hv : Int64.ofNat (n : Nat) = v) (h : jJ Z E nL Q (pc + 1) lv (.long v :: st) I) : jJ Z E nL Q pc lv st I := fun ls H locs hl hP hS => lv_lconst C.x C.b d hv (h ls H locs hl hP hS)
theorem j_iload_n (C : jC Z E cc nL own fR lR) {k : Fin 4} {i : Nat} {x : Int32} (d : decode cc pc = .ok (.iload_n k, 1)) (hi : (k : Nat) = i) (n : Nat) (hn : lv[n]? = some (i, .int x)) (h : jJ Z E nL Q (pc + 1) lv (.int x :: st) I) : jJ Z E nL Q pc lv st I := fun ls H locs hl hP hS => lv_iload_n C.x C.b d hi (lv_at hl n hn) (h ls H locs hl hP hS)
theorem j_iload (C : jC Z E cc nL own fR lR) {i : Nat} {x : Int32} (d : decode cc pc = .ok (.iload i, 2)) (n : Nat) (hn : lv[n]? = some (i, .int x)) (h : jJ Z E nL Q (pc + 2) lv (.int x :: st) I) : jJ Z E nL Q pc lv st I := fun ls H locs hl hP hS => lv_iload C.x C.b d (lv_at hl n hn) (h ls H locs hl hP hS)
theorem j_lload_n (C : jC Z E cc nL own fR lR) {k : Fin 4} {i : Nat} {x : Int64} (d : decode cc pc = .ok (.lload_n k, 1)) (hi : (k : Nat) = i) (n : Nat) (hn : lv[n]? = some (i, .long x)) (h : jJ Z E nL Q (pc + 1) lv (.long x :: st) I) : jJ Z E nL Q pc lv st I := fun ls H locs hl hP hS => lv_lload_n C.x C.b d hi (lv_at hl n hn) (h ls H locs hl hP hS)
theorem j_lload (C : jC Z E cc nL own fR lR) {i : Nat} {x : Int64} (d : decode cc pc = .ok (.lload i, 2)) (n : Nat) (hn : lv[n]? = some (i, .long x)) (h : jJ Z E nL Q (pc + 2) lv (.long x :: st) I) : jJ Z E nL Q pc lv st I := fun ls H locs hl hP hS => lv_lload C.x C.b d (lv_at hl n hn) (h ls H locs hl hP hS)
theorem j_aload_n (C : jC Z E cc nL own fR lR) {k : Fin 4} {i : Nat} {x : Nat} (d : decode cc pc = .ok (.aload_n k, 1)) (hi : (k : Nat) = i) (n : Nat) (hn : lv[n]? = some (i, .ref x)) (h : jJ Z E nL Q (pc + 1) lv (.ref x :: st) I) : jJ Z E nL Q pc lv st I := fun ls H locs hl hP hS => lv_aload_n C.x C.b d hi (lv_at hl n hn) (h ls H locs hl hP hS)
theorem j_aload (C : jC Z E cc nL own fR lR) {i : Nat} {x : Nat} (d : decode cc pc = .ok (.aload i, 2)) (n : Nat) (hn : lv[n]? = some (i, .ref x)) (h : jJ Z E nL Q (pc + 2) lv (.ref x :: st) I) : jJ Z E nL Q pc lv st I := fun ls H locs hl hP hS => lv_aload C.x C.b d (lv_at hl n hn) (h ls H locs hl hP hS)
theorem j_istore_n (C : jC Z E cc nL own fR lR) {k : Fin 4} {i : Nat} {x : Int32} (d : decode cc pc = .ok (.istore_n k, 1)) (hi : (k : Nat) = i) (hn : i < nL) {lv' : List (Nat × Value)} (hl' : (i, Value.int x) :: lv.filter (fun q => !(q.1 == i) && !(q.1 + 1 == i && q.2.category == 2)) = lv') (h : jJ Z E nL Q (pc + 1) lv' st I) : jJ Z E nL Q pc lv (.int x :: st) I := fun ls H locs hl hP hS => lv_istore_n C.x C.b d hi hl hn hl' (fun ls' hl2 => h ls' H locs hl2 hP hS)
theorem j_istore (C : jC Z E cc nL own fR lR) {i : Nat} {x : Int32} (d : decode cc pc = .ok (.istore i, 2)) (hn : i < nL) {lv' : List (Nat × Value)} (hl' : (i, Value.int x) :: lv.filter (fun q => !(q.1 == i) && !(q.1 + 1 == i && q.2.category == 2)) = lv') (h : jJ Z E nL Q (pc + 2) lv' st I) : jJ Z E nL Q pc lv (.int x :: st) I := fun ls H locs hl hP hS => lv_istore C.x C.b d hl hn hl' (fun ls' hl2 => h ls' H locs hl2 hP hS)
theorem j_lstore_n (C : jC Z E cc nL own fR lR) {k : Fin 4} {i : Nat} {x : Int64} (d : decode cc pc = .ok (.lstore_n k, 1)) (hi : (k : Nat) = i) (hn : i + 1 < nL) {lv' : List (Nat × Value)} (hl' : (i, Value.long x) :: lv.filter (fun q => !(q.1 == i) && (!(q.1 == i + 1) && !(q.1 + 1 == i && q.2.category == 2))) = lv') (h : jJ Z E nL Q (pc + 1) lv' st I) : jJ Z E nL Q pc lv (.long x :: st) I := fun ls H locs hl hP hS => lv_lstore_n C.x C.b d hi hl hn hl' (fun ls' hl2 => h ls' H locs hl2 hP hS)
theorem j_lstore (C : jC Z E cc nL own fR lR) {i : Nat} {x : Int64} (d : decode cc pc = .ok (.lstore i, 2)) (hn : i + 1 < nL) {lv' : List (Nat × Value)} (hl' : (i, Value.long x) :: lv.filter (fun q => !(q.1 == i) && (!(q.1 == i + 1) && !(q.1 + 1 == i && q.2.category == 2))) = lv') (h : jJ Z E nL Q (pc + 2) lv' st I) : jJ Z E nL Q pc lv (.long x :: st) I := fun ls H locs hl hP hS => lv_lstore C.x C.b d hl hn hl' (fun ls' hl2 => h ls' H locs hl2 hP hS)
theorem j_astore_n (C : jC Z E cc nL own fR lR) {k : Fin 4} {i : Nat} {x : Nat} (d : decode cc pc = .ok (.astore_n k, 1)) (hi : (k : Nat) = i) (hn : i < nL) {lv' : List (Nat × Value)} (hl' : (i, Value.ref x) :: lv.filter (fun q => !(q.1 == i) && !(q.1 + 1 == i && q.2.category == 2)) = lv') (h : jJ Z E nL Q (pc + 1) lv' st I) : jJ Z E nL Q pc lv (.ref x :: st) I := fun ls H locs hl hP hS => lv_astore_n C.x C.b d hi hl hn hl' (fun ls' hl2 => h ls' H locs hl2 hP hS)
theorem j_iinc (C : jC Z E cc nL own fR lR) {i : Nat} {n : Int} {x v : Int32} (d : decode cc pc = .ok (.iinc i n, 3)) (k : Nat) (hk : lv[k]? = some (i, .int x)) (hv : x + Int32.ofInt n = v) (hn : i < nL) {lv' : List (Nat × Value)} (hl' : (i, Value.int v) :: lv.filter (fun q => !(q.1 == i) && !(q.1 + 1 == i && q.2.category == 2)) = lv') (h : jJ Z E nL Q (pc + 3) lv' st I) : jJ Z E nL Q pc lv st I := fun ls H locs hl hP hS => lv_iinc C.x C.b d hl hk hv hn hl' (fun ls' hl2 => h ls' H locs hl2 hP hS)
theorem j_iadd (C : jC Z E cc nL own fR lR) {x y : Int32} (d : decode cc pc = .ok (.iadd, 1)) (h : jJ Z E nL Q (pc + 1) lv (.int (x + y) :: st) I) : jJ Z E nL Q pc lv (.int y :: .int x :: st) I := fun ls H locs hl hP hS => lv_iadd C.x C.b d (h ls H locs hl hP hS)
theorem j_isub (C : jC Z E cc nL own fR lR) {x y : Int32} (d : decode cc pc = .ok (.isub, 1)) (h : jJ Z E nL Q (pc + 1) lv (.int (x - y) :: st) I) : jJ Z E nL Q pc lv (.int y :: .int x :: st) I := fun ls H locs hl hP hS => lv_isub C.x C.b d (h ls H locs hl hP hS)
theorem j_imul (C : jC Z E cc nL own fR lR) {x y : Int32} (d : decode cc pc = .ok (.imul, 1)) (h : jJ Z E nL Q (pc + 1) lv (.int (x * y) :: st) I) : jJ Z E nL Q pc lv (.int y :: .int x :: st) I := fun ls H locs hl hP hS => lv_imul C.x C.b d (h ls H locs hl hP hS)
theorem j_iand (C : jC Z E cc nL own fR lR) {x y : Int32} (d : decode cc pc = .ok (.iand, 1)) (h : jJ Z E nL Q (pc + 1) lv (.int (x &&& y) :: st) I) : jJ Z E nL Q pc lv (.int y :: .int x :: st) I := fun ls H locs hl hP hS => lv_iand C.x C.b d (h ls H locs hl hP hS)
theorem j_ior (C : jC Z E cc nL own fR lR) {x y : Int32} (d : decode cc pc = .ok (.ior, 1)) (h : jJ Z E nL Q (pc + 1) lv (.int (x ||| y) :: st) I) : jJ Z E nL Q pc lv (.int y :: .int x :: st) I := fun ls H locs hl hP hS => lv_ior C.x C.b d (h ls H locs hl hP hS)
theorem j_ixor (C : jC Z E cc nL own fR lR) {x y : Int32} (d : decode cc pc = .ok (.ixor, 1)) (h : jJ Z E nL Q (pc + 1) lv (.int (x ^^^ y) :: st) I) : jJ Z E nL Q pc lv (.int y :: .int x :: st) I := fun ls H locs hl hP hS => lv_ixor C.x C.b d (h ls H locs hl hP hS)
theorem j_ishl (C : jC Z E cc nL own fR lR) {x y : Int32} (d : decode cc pc = .ok (.ishl, 1)) (h : jJ Z E nL Q (pc + 1) lv (.int (x <<< (y &&& 31)) :: st) I) : jJ Z E nL Q pc lv (.int y :: .int x :: st) I := fun ls H locs hl hP hS => lv_ishl C.x C.b d (h ls H locs hl hP hS)
theorem j_ishr (C : jC Z E cc nL own fR lR) {x y : Int32} (d : decode cc pc = .ok (.ishr, 1)) (h : jJ Z E nL Q (pc + 1) lv (.int (x >>> (y &&& 31)) :: st) I) : jJ Z E nL Q pc lv (.int y :: .int x :: st) I := fun ls H locs hl hP hS => lv_ishr C.x C.b d (h ls H locs hl hP hS)
theorem j_iushr (C : jC Z E cc nL own fR lR) {x y : Int32} (d : decode cc pc = .ok (.iushr, 1)) (h : jJ Z E nL Q (pc + 1) lv (.int ((x.toUInt32 >>> (y.toUInt32 &&& Int32.toUInt32 31)).toInt32) :: st) I) : jJ Z E nL Q pc lv (.int y :: .int x :: st) I := fun ls H locs hl hP hS => lv_iushr C.x C.b d rfl (h ls H locs hl hP hS)
theorem j_ineg (C : jC Z E cc nL own fR lR) {x : Int32} (d : decode cc pc = .ok (.ineg, 1)) (h : jJ Z E nL Q (pc + 1) lv (.int (-x) :: st) I) : jJ Z E nL Q pc lv (.int x :: st) I := fun ls H locs hl hP hS => lv_ineg C.x C.b d (h ls H locs hl hP hS)
theorem j_idiv (C : jC Z E cc nL own fR lR) {x y : Int32} (d : decode cc pc = .ok (.idiv, 1)) (hne : ¬ y = 0) (h : jJ Z E nL Q (pc + 1) lv (.int (x / y) :: st) I) : jJ Z E nL Q pc lv (.int y :: .int x :: st) I := fun ls H locs hl hP hS => lv_idiv C.x C.b d hne (h ls H locs hl hP hS)
theorem j_irem (C : jC Z E cc nL own fR lR) {x y : Int32} (d : decode cc pc = .ok (.irem, 1)) (hne : ¬ y = 0) (h : jJ Z E nL Q (pc + 1) lv (.int (x - x / y * y) :: st) I) : jJ Z E nL Q pc lv (.int y :: .int x :: st) I := fun ls H locs hl hP hS => lv_irem C.x C.b d hne (h ls H locs hl hP hS)
theorem j_ladd (C : jC Z E cc nL own fR lR) {x y : Int64} (d : decode cc pc = .ok (.ladd, 1)) (h : jJ Z E nL Q (pc + 1) lv (.long (x + y) :: st) I) : jJ Z E nL Q pc lv (.long y :: .long x :: st) I := fun ls H locs hl hP hS => lv_ladd C.x C.b d (h ls H locs hl hP hS)
theorem j_lsub (C : jC Z E cc nL own fR lR) {x y : Int64} (d : decode cc pc = .ok (.lsub, 1)) (h : jJ Z E nL Q (pc + 1) lv (.long (x - y) :: st) I) : jJ Z E nL Q pc lv (.long y :: .long x :: st) I := fun ls H locs hl hP hS => lv_lsub C.x C.b d (h ls H locs hl hP hS)
theorem j_lmul (C : jC Z E cc nL own fR lR) {x y : Int64} (d : decode cc pc = .ok (.lmul, 1)) (h : jJ Z E nL Q (pc + 1) lv (.long (x * y) :: st) I) : jJ Z E nL Q pc lv (.long y :: .long x :: st) I := fun ls H locs hl hP hS => lv_lmul C.x C.b d (h ls H locs hl hP hS)
theorem j_lrem (C : jC Z E cc nL own fR lR) {x y : Int64} (d : decode cc pc = .ok (.lrem, 1)) (hne : ¬ y = 0) (h : jJ Z E nL Q (pc + 1) lv (.long (x - x / y * y) :: st) I) : jJ Z E nL Q pc lv (.long y :: .long x :: st) I := fun ls H locs hl hP hS => lv_lrem C.x C.b d hne (h ls H locs hl hP hS)
theorem j_lcmp (C : jC Z E cc nL own fR lR) {x y : Int64} (d : decode cc pc = .ok (.lcmp, 1)) (h : jJ Z E nL Q (pc + 1) lv (.int (lg_cmp x y) :: st) I) : jJ Z E nL Q pc lv (.long y :: .long x :: st) I := fun ls H locs hl hP hS => W.lcmp C.x C.b d (h ls H locs hl hP hS)
theorem j_i2l (C : jC Z E cc nL own fR lR) {x : Int32} (d : decode cc pc = .ok (.i2l, 1)) (h : jJ Z E nL Q (pc + 1) lv (.long x.toInt64 :: st) I) : jJ Z E nL Q pc lv (.int x :: st) I := fun ls H locs hl hP hS => lv_i2l C.x C.b d rfl (h ls H locs hl hP hS)
theorem j_l2i (C : jC Z E cc nL own fR lR) {x : Int64} (d : decode cc pc = .ok (.l2i, 1)) (h : jJ Z E nL Q (pc + 1) lv (.int x.toInt32 :: st) I) : jJ Z E nL Q pc lv (.long x :: st) I := fun ls H locs hl hP hS => lv_l2i C.x C.b d rfl (h ls H locs hl hP hS)
theorem j_dup (C : jC Z E cc nL own fR lR) {v : Value} (d : decode cc pc = .ok (.dup, 1)) (hv : v.category = 1) (h : jJ Z E nL Q (pc + 1) lv (v :: v :: st) I) : jJ Z E nL Q pc lv (v :: st) I := fun ls H locs hl hP hS => lv_dup C.x C.b d hv (h ls H locs hl hP hS)
theorem j_dup2 (C : jC Z E cc nL own fR lR) {v w : Value} (d : decode cc pc = .ok (.dup2, 1)) (hv : v.category = 1) (hw : w.category = 1) (h : jJ Z E nL Q (pc + 1) lv (v :: w :: v :: w :: st) I) : jJ Z E nL Q pc lv (v :: w :: st) I := fun ls H locs hl hP hS => lv_dup2_11 C.x C.b d hv hw (h ls H locs hl hP hS)
theorem j_pop (C : jC Z E cc nL own fR lR) {v : Value} (d : decode cc pc = .ok (.pop, 1)) (hv : v.category = 1) (h : jJ Z E nL Q (pc + 1) lv st I) : jJ Z E nL Q pc lv (v :: st) I := fun ls H locs hl hP hS => lv_pop C.x C.b d hv (h ls H locs hl hP hS)
theorem j_topi {x : Int32} (h : ∀ y : Int32, y = x → jJ Z E nL Q pc lv (.int y :: st) I) : jJ Z E nL Q pc lv (.int x :: st) I := h x rfl
theorem j_topl {x : Int64} (h : ∀ y : Int64, y = x → jJ Z E nL Q pc lv (.long y :: st) I) : jJ Z E nL Q pc lv (.long x :: st) I := h x rfl
theorem j_goto (C : jC Z E cc nL own fR lR) {off : Int} {tgt : Nat} (d : decode cc pc = .ok (.goto off, 3)) (ht : (pc : Int) + off = (tgt : Int)) (h : jJ Z E nL Q tgt lv st I) : jJ Z E nL Q pc lv st I := fun ls H locs hl hP hS => lv_goto C.x C.b d ht (h ls H locs hl hP hS)
/-- fewer locals, by their places -/
theorem j_lv {lv' : List (Nat × Value)} (ks : List Nat) (hk : lv_pick lv ks = lv') (h : jJ Z E nL Q pc lv' st I) : jJ Z E nL Q pc lv st I := fun ls H locs hl hP hS => h ls H locs (lv_sub hl ks hk) hP hS
theorem j_tableOut (C : jC Z E cc nL own fR lR) {dflt lo hi : Int} {offs : Array Int} {len : Nat} {x : Int32} {tgt : Nat} (d : decode cc pc = .ok (.tableswitch dflt lo hi offs, len)) (h0 : x.toInt < lo ∨ hi < x.toInt) (ht : (pc : Int) + dflt = (tgt : Int)) (h : jJ Z E nL Q tgt lv st I) : jJ Z E nL Q pc lv (.int x :: st) I := fun ls H locs hl hP hS => lv_tableOut C.x C.b d h0 ht (h ls H locs hl hP hS)
theorem j_tableIn (C : jC Z E cc nL own fR lR) {dflt lo hi : Int} {offs : Array Int} {len : Nat} {x : Int32} {off : Int} {tgt : Nat} (d : decode cc pc = .ok (.tableswitch dflt lo hi offs, len)) (h1 : ¬ x.toInt < lo) (h2 : ¬ hi < x.toInt) (ho : offs[(x.toInt - lo).toNat]? = some off) (ht : (pc : Int) + off = (tgt : Int)) (h : jJ Z E nL Q tgt lv st I) : jJ Z E nL Q pc lv (.int x :: st) I := fun ls H locs hl hP hS => lv_tableIn C.x C.b d h1 h2 ho ht (h ls H locs hl hP hS)
theorem j_if_eq (C : jC Z E cc nL own fR lR) {x : Int32} {off : Int} {tgt : Nat} (d : decode cc pc = .ok (.ifCond .eq off, 3)) (ht : (pc : Int) + off = (tgt : Int)) (kt : x = 0 → jJ Z E nL Q tgt lv st I) (kf : ¬ x = 0 → jJ Z E nL Q (pc + 3) lv st I) : jJ Z E nL Q pc lv (.int x :: st) I := fun ls H locs hl hP hS => lv_if_eq C.x C.b d ht (fun q => kt q ls H locs hl hP hS) (fun q => kf q ls H locs hl hP hS)
theorem j_icmp_eq (C : jC Z E cc nL own fR lR) {x y : Int32} {off : Int} {tgt : Nat} (d : decode cc pc = .ok (.if_icmp .eq off, 3)) (ht : (pc : Int) + off = (tgt : Int)) (kt : x = y → jJ Z E nL Q tgt lv st I) (kf : ¬ x = y → jJ Z E nL Q (pc + 3) lv st I) : jJ Z E nL Q pc lv (.int y :: .int x :: st) I := fun ls H locs hl hP hS => lv_icmp_eq C.x C.b d ht (fun q => kt q ls H locs hl hP hS) (fun q => kf q ls H locs hl hP hS)
theorem j_if_ne (C : jC Z E cc nL own fR lR) {x : Int32} {off : Int} {tgt : Nat} (d : decode cc pc = .ok (.ifCond .ne off, 3)) (ht : (pc : Int) + off = (tgt : Int)) (kt : ¬ x = 0 → jJ Z E nL Q tgt lv st I) (kf : x = 0 → jJ Z E nL Q (pc + 3) lv st I) : jJ Z E nL Q pc lv (.int x :: st) I := fun ls H locs hl hP hS => lv_if_ne C.x C.b d ht (fun q => kt q ls H locs hl hP hS) (fun q => kf q ls H locs hl hP hS)
theorem j_icmp_ne (C : jC Z E cc nL own fR lR) {x y : Int32} {off : Int} {tgt : Nat} (d : decode cc pc = .ok (.if_icmp .ne off, 3)) (ht : (pc : Int) + off = (tgt : Int)) (kt : ¬ x = y → jJ Z E nL Q tgt lv st I) (kf : x = y → jJ Z E nL Q (pc + 3) lv st I) : jJ Z E nL Q pc lv (.int y :: .int x :: st) I := fun ls H locs hl hP hS => lv_icmp_ne C.x C.b d ht (fun q => kt q ls H locs hl hP hS) (fun q => kf q ls H locs hl hP hS)
theorem j_if_lt (C : jC Z E cc nL own fR lR) {x : Int32} {off : Int} {tgt : Nat} (d : decode cc pc = .ok (.ifCond .lt off, 3)) (ht : (pc : Int) + off = (tgt : Int)) (kt : x < 0 → jJ Z E nL Q tgt lv st I) (kf : ¬ x < 0 → jJ Z E nL Q (pc + 3) lv st I) : jJ Z E nL Q pc lv (.int x :: st) I := fun ls H locs hl hP hS => lv_if_lt C.x C.b d ht (fun q => kt q ls H locs hl hP hS) (fun q => kf q ls H locs hl hP hS)
theorem j_icmp_lt (C : jC Z E cc nL own fR lR) {x y : Int32} {off : Int} {tgt : Nat} (d : decode cc pc = .ok (.if_icmp .lt off, 3)) (ht : (pc : Int) + off = (tgt : Int)) (kt : x < y → jJ Z E nL Q tgt lv st I) (kf : ¬ x < y → jJ Z E nL Q (pc + 3) lv st I) : jJ Z E nL Q pc lv (.int y :: .int x :: st) I := fun ls H locs hl hP hS => lv_icmp_lt C.x C.b d ht (fun q => kt q ls H locs hl hP hS) (fun q => kf q ls H locs hl hP hS)
theorem j_if_ge (C : jC Z E cc nL own fR lR) {x : Int32} {off : Int} {tgt : Nat} (d : decode cc pc = .ok (.ifCond .ge off, 3)) (ht : (pc : Int) + off = (tgt : Int)) (kt : 0 ≤ x → jJ Z E nL Q tgt lv st I) (kf : ¬ 0 ≤ x → jJ Z E nL Q (pc + 3) lv st I) : jJ Z E nL Q pc lv (.int x :: st) I := fun ls H locs hl hP hS => lv_if_ge C.x C.b d ht (fun q => kt q ls H locs hl hP hS) (fun q => kf q ls H locs hl hP hS)
theorem j_icmp_ge (C : jC Z E cc nL own fR lR) {x y : Int32} {off : Int} {tgt : Nat} (d : decode cc pc = .ok (.if_icmp .ge off, 3)) (ht : (pc : Int) + off = (tgt : Int)) (kt : y ≤ x → jJ Z E nL Q tgt lv st I) (kf : ¬ y ≤ x → jJ Z E nL Q (pc + 3) lv st I) : jJ Z E nL Q pc lv (.int y :: .int x :: st) I := fun ls H locs hl hP hS => lv_icmp_ge C.x C.b d ht (fun q => kt q ls H locs hl hP hS) (fun q => kf q ls H locs hl hP hS)
theorem j_if_gt (C : jC Z E cc nL own fR lR) {x : Int32} {off : Int} {tgt : Nat} (d : decode cc pc = .ok (.ifCond .gt off, 3)) (ht : (pc : Int) + off = (tgt : Int)) (kt : 0 < x → jJ Z E nL Q tgt lv st I) (kf : ¬ 0 < x → jJ Z E nL Q (pc + 3) lv st I) : jJ Z E nL Q pc lv (.int x :: st) I := fun ls H locs hl hP hS => lv_if_gt C.x C.b d ht (fun q => kt q ls H locs hl hP hS) (fun q => kf q ls H locs hl hP hS)
theorem j_icmp_gt (C : jC Z E cc nL own fR lR) {x y : Int32} {off : Int} {tgt : Nat} (d : decode cc pc = .ok (.if_icmp .gt off, 3)) (ht : (pc : Int) + off = (tgt : Int)) (kt : y < x → jJ Z E nL Q tgt lv st I) (kf : ¬ y < x → jJ Z E nL Q (pc + 3) lv st I) : jJ Z E nL Q pc lv (.int y :: .int x :: st) I := fun ls H locs hl hP hS => lv_icmp_gt C.x C.b d ht (fun q => kt q ls H locs hl hP hS) (fun q => kf q ls H locs hl hP hS)
theorem j_if_le (C : jC Z E cc nL own fR lR) {x : Int32} {off : Int} {tgt : Nat} (d : decode cc pc = .ok (.ifCond .le off, 3)) (ht : (pc : Int) + off = (tgt : Int)) (kt : x ≤ 0 → jJ Z E nL Q tgt lv st I) (kf : ¬ x ≤ 0 → jJ Z E nL Q (pc + 3) lv st I) : jJ Z E nL Q pc lv (.int x :: st) I := fun ls H locs hl hP hS => lv_if_le C.x C.b d ht (fun q => kt q ls H locs hl hP hS) (fun q => kf q ls H locs hl hP hS)
theorem j_icmp_le (C : jC Z E cc nL own fR lR) {x y : Int32} {off : Int} {tgt : Nat} (d : decode cc pc = .ok (.if_icmp .le off, 3)) (ht : (pc : Int) + off = (tgt : Int)) (kt : x ≤ y → jJ Z E nL Q tgt lv st I) (kf : ¬ x ≤ y → jJ Z E nL Q (pc + 3) lv st I) : jJ Z E nL Q pc lv (.int y :: .int x :: st) I := fun ls H locs hl hP hS => lv_icmp_le C.x C.b d ht (fun q => kt q ls H locs hl hP hS) (fun q => kf q ls H locs hl hP hS)
end JR
end
section
/-! ===== the J layer: fields, arrays ===== -/
section JM
variable {Z : jZ} {E : jE} {cc : ByteArray} {nL : Nat} {own : String} {fR lR : Nat} {Q : State → Prop} {pc : Nat} {lv : List (Nat × Value)} {st : List Value} {I : jM}
/-- a cell is given its new row: the world of the new memory -/
theorem jP_set {H1 : Heap} (h : jOK E) {I' : jM} {q i : Nat} (hq : E.2.2.2[q]? = some i) (ho : ∀ a, a ≠ i → I' a = I a) {x : va_E} (hx : x = jcell E.2.1 E.2.2.1 i I') (hP : va_P E.1 jCl ((jworld E I).set q (E.2.2.1 i, x)) H1) : va_P E.1 jCl (jworld E I') H1 := by
  rw [jworld_set h hq ho hx] at hP; exact hP
theorem j_getI (C : jC Z E cc nL own fR lR) {ci : Nat} {Cn ref : String} {F : u_T} {N : Nat} {ty : Nat → FieldType} (hc : jcl ci Cn F N ty) {i k idx : Nat} (hi : jOB E ci i) (hk : k < N) (hq : jq ci k = false) (hF : (F k).1 = ref) (hw : Cond.fieldLink own idx ref (F k).2.1 (F k).2.2.1 ∈ jtbl) (d : decode cc pc = .ok (.getfield idx, 3)) (h : jJ Z E nL Q (pc + 3) lv (.int (I i k) :: st) I) : jJ Z E nL Q pc lv (.ref (E.2.2.1 i) :: st) I := fun ls H locs hl hP hS => by
  obtain ⟨q, hq0⟩ := jmem_get hi.1
  have he := jworld_get (I := I) hq0
  rw [jcell_obj hi.2 hc.2.2.1 hc.2.2.2.1 hc.2.2.2.2.1] at he
  have hv : (jfs E.2.2.1 i I)[k]? = some (Value.int (I i k)) := by
    rw [jfs_get hi.2 (hc.2.1 ▸ hk), hq]; rfl
  exact va_get (D := E.1) (ci := ci) C.x C.b C.ts hc.2.2.2.2.2.1 C.own C.K hP q he hc.1 k hk (C.ts _ hw) (fun x hx => hF ▸ hx) hv d (h ls H locs hl hP hS)
theorem j_getR (C : jC Z E cc nL own fR lR) {ci : Nat} {Cn ref : String} {F : u_T} {N : Nat} {ty : Nat → FieldType} (hc : jcl ci Cn F N ty) {i k idx : Nat} (hi : jOB E ci i) (hk : k < N) (hq : jq ci k = true) (hF : (F k).1 = ref) (hw : Cond.fieldLink own idx ref (F k).2.1 (F k).2.2.1 ∈ jtbl) (d : decode cc pc = .ok (.getfield idx, 3)) (h : jJ Z E nL Q (pc + 3) lv (.ref (E.2.2.1 (jr i k)) :: st) I) : jJ Z E nL Q pc lv (.ref (E.2.2.1 i) :: st) I := fun ls H locs hl hP hS => by
  obtain ⟨q, hq0⟩ := jmem_get hi.1
  have he := jworld_get (I := I) hq0
  rw [jcell_obj hi.2 hc.2.2.1 hc.2.2.2.1 hc.2.2.2.2.1] at he
  have hv : (jfs E.2.2.1 i I)[k]? = some (Value.ref (E.2.2.1 (jr i k))) := by
    rw [jfs_get hi.2 (hc.2.1 ▸ hk), hq]; rfl
  exact va_get (D := E.1) (ci := ci) C.x C.b C.ts hc.2.2.2.2.2.1 C.own C.K hP q he hc.1 k hk (C.ts _ hw) (fun x hx => hF ▸ hx) hv d (h ls H locs hl hP hS)
theorem j_getIN (C : jC Z E cc nL own fR lR) {ci : Nat} {Cn ref host : String} {F : u_T} {N : Nat} {ty : Nat → FieldType} (hc : jcl ci Cn F N ty) {i k idx : Nat} (hi : jOB E ci i) (hk : k < N) (hq : jq ci k = false) (hF : (F k).1 = ref) (hw : Cond.fieldLinkNest own idx ref (F k).2.1 (F k).2.2.1 host ∈ jnst) (d : decode cc pc = .ok (.getfield idx, 3)) (h : jJ Z E nL Q (pc + 3) lv (.int (I i k) :: st) I) : jJ Z E nL Q pc lv (.ref (E.2.2.1 i) :: st) I := fun ls H locs hl hP hS => by
  obtain ⟨q, hq0⟩ := jmem_get hi.1
  have he := jworld_get (I := I) hq0
  rw [jcell_obj hi.2 hc.2.2.1 hc.2.2.2.1 hc.2.2.2.2.1] at he
  have hv : (jfs E.2.2.1 i I)[k]? = some (Value.int (I i k)) := by
    rw [jfs_get hi.2 (hc.2.1 ▸ hk), hq]; rfl
  exact va_getN (D := E.1) (ci := ci) C.x C.b C.ts hc.2.2.2.2.2.1 C.own C.K hP q he hc.1 k hk (va_Nw.use rfl (C.N _ hw)) (fun x hx => hF ▸ hx) hv d (h ls H locs hl hP hS)
theorem j_getRN (C : jC Z E cc nL own fR lR) {ci : Nat} {Cn ref host : String} {F : u_T} {N : Nat} {ty : Nat → FieldType} (hc : jcl ci Cn F N ty) {i k idx : Nat} (hi : jOB E ci i) (hk : k < N) (hq : jq ci k = true) (hF : (F k).1 = ref) (hw : Cond.fieldLinkNest own idx ref (F k).2.1 (F k).2.2.1 host ∈ jnst) (d : decode cc pc = .ok (.getfield idx, 3)) (h : jJ Z E nL Q (pc + 3) lv (.ref (E.2.2.1 (jr i k)) :: st) I) : jJ Z E nL Q pc lv (.ref (E.2.2.1 i) :: st) I := fun ls H locs hl hP hS => by
  obtain ⟨q, hq0⟩ := jmem_get hi.1
  have he := jworld_get (I := I) hq0
  rw [jcell_obj hi.2 hc.2.2.1 hc.2.2.2.1 hc.2.2.2.2.1] at he
  have hv : (jfs E.2.2.1 i I)[k]? = some (Value.ref (E.2.2.1 (jr i k))) := by
    rw [jfs_get hi.2 (hc.2.1 ▸ hk), hq]; rfl
  exact va_getN (D := E.1) (ci := ci) C.x C.b C.ts hc.2.2.2.2.2.1 C.own C.K hP q he hc.1 k hk (va_Nw.use rfl (C.N _ hw)) (fun x hx => hF ▸ hx) hv d (h ls H locs hl hP hS)
theorem j_put (C : jC Z E cc nL own fR lR) {ci : Nat} {Cn ref : String} {F : u_T} {N : Nat} {ty : Nat → FieldType} (hc : jcl ci Cn F N ty) {i k idx : Nat} {v : Int32} (hi : jOB E ci i) (hk : k < N) (hq : jq ci k = false) (hF : (F k).1 = ref) (hfin : (F k).2.2.2 = false) (hw : Cond.fieldLink own idx ref (F k).2.1 (F k).2.2.1 ∈ jtbl) (hn : narrow (ty k) (.int v) = .int v) (hf : fits (ty k) (.int v) = true) (d : decode cc pc = .ok (.putfield idx, 3)) (h : jJ Z E nL Q (pc + 3) lv st (jwr I i k v)) : jJ Z E nL Q pc lv (.int v :: .ref (E.2.2.1 i) :: st) I := fun ls H locs hl hP hS => by
  obtain ⟨q, hq0⟩ := jmem_get hi.1
  have he := jworld_get (I := I) hq0
  have hkn : k < jn ci := hc.2.1 ▸ hk
  rw [jcell_obj hi.2 hc.2.2.1 hc.2.2.2.1 hc.2.2.2.2.1] at he
  refine va_put (D := E.1) (ci := ci) (v := .int v) (ty := ty k) C.x C.b C.ts hc.2.2.2.2.2.1 ty hc.2.2.2.2.2.2.1 hc.2.2.2.2.2.2.2 C.own C.K hP (jworld_D C.ok I) hS q he hc.1 k hk (C.ts _ hw) (fun x hx => hF ▸ hx) hfin (hc.2.2.2.2.2.2.1 k hk) hn hf (by rw [jfs_len hi.2]; exact hkn) d (fun H1 locs1 hP1 _ hS1 => ?_)
  refine h ls H1 locs1 hl (jP_set C.ok hq0 (I' := jwr I i k v) (fun a ha => jwr_ne ha) ?_ hP1) hS1
  rw [jcell_obj hi.2 hc.2.2.1 hc.2.2.2.1 hc.2.2.2.2.1, jfs_set hi.2 hkn hq]
theorem j_putN (C : jC Z E cc nL own fR lR) {ci : Nat} {Cn ref host : String} {F : u_T} {N : Nat} {ty : Nat → FieldType} (hc : jcl ci Cn F N ty) {i k idx : Nat} {v : Int32} (hi : jOB E ci i) (hk : k < N) (hq : jq ci k = false) (hF : (F k).1 = ref) (hfin : (F k).2.2.2 = false) (hw : Cond.fieldLinkNest own idx ref (F k).2.1 (F k).2.2.1 host ∈ jnst) (hn : narrow (ty k) (.int v) = .int v) (hf : fits (ty k) (.int v) = true) (d : decode cc pc = .ok (.putfield idx, 3)) (h : jJ Z E nL Q (pc + 3) lv st (jwr I i k v)) : jJ Z E nL Q pc lv (.int v :: .ref (E.2.2.1 i) :: st) I := fun ls H locs hl hP hS => by
  obtain ⟨q, hq0⟩ := jmem_get hi.1
  have he := jworld_get (I := I) hq0
  have hkn : k < jn ci := hc.2.1 ▸ hk
  rw [jcell_obj hi.2 hc.2.2.1 hc.2.2.2.1 hc.2.2.2.2.1] at he
  refine va_putN (D := E.1) (ci := ci) (v := .int v) (ty := ty k) C.x C.b C.ts hc.2.2.2.2.2.1 ty hc.2.2.2.2.2.2.1 hc.2.2.2.2.2.2.2 C.own C.K hP (jworld_D C.ok I) hS q he hc.1 k hk (va_Nw.use rfl (C.N _ hw)) (fun x hx => hF ▸ hx) hfin (hc.2.2.2.2.2.2.1 k hk) hn hf (by rw [jfs_len hi.2]; exact hkn) d (fun H1 locs1 hP1 _ hS1 => ?_)
  refine h ls H1 locs1 hl (jP_set C.ok hq0 (I' := jwr I i k v) (fun a ha => jwr_ne ha) ?_ hP1) hS1
  rw [jcell_obj hi.2 hc.2.2.1 hc.2.2.2.1 hc.2.2.2.2.1, jfs_set hi.2 hkn hq]
theorem j_iaload (C : jC Z E cc nL own fR lR) {n i : Nat} {x : Int32} (hi : jAI E n i) (hin : vp_in x n) (d : decode cc pc = .ok (.iaload, 1)) (h : jJ Z E nL Q (pc + 1) lv (.int (I i x.toNatClampNeg) :: st) I) : jJ Z E nL Q pc lv (.int x :: .ref (E.2.2.1 i) :: st) I := fun ls H locs hl hP hS => by
  obtain ⟨q, hq0⟩ := jmem_get hi.1
  have he := jworld_get (I := I) hq0
  rw [jcell_int hi.2.1, hi.2.2] at he
  exact va_iald C.x C.b C.K hP q 0 he rfl hin d (h ls H locs hl hP hS)
theorem j_zaload (C : jC Z E cc nL own fR lR) {n i : Nat} {x : Int32} (hi : jAB E n i) (hin : vp_in x n) (d : decode cc pc = .ok (.baload, 1)) (h : jJ Z E nL Q (pc + 1) lv (.int (I i x.toNatClampNeg) :: st) I) : jJ Z E nL Q pc lv (.int x :: .ref (E.2.2.1 i) :: st) I := fun ls H locs hl hP hS => by
  obtain ⟨q, hq0⟩ := jmem_get hi.1
  have he := jworld_get (I := I) hq0
  rw [jcell_boo hi.2.1, hi.2.2] at he
  exact va_zald C.x C.b C.K hP q 1 he rfl hin d (h ls H locs hl hP hS)
theorem j_iastore (C : jC Z E cc nL own fR lR) {n i : Nat} {x v : Int32} (hi : jAI E n i) (hin : vp_in x n) (d : decode cc pc = .ok (.iastore, 1)) (h : jJ Z E nL Q (pc + 1) lv st (jwr I i x.toNatClampNeg v)) : jJ Z E nL Q pc lv (.int v :: .int x :: .ref (E.2.2.1 i) :: st) I := fun ls H locs hl hP hS => by
  obtain ⟨q, hq0⟩ := jmem_get hi.1
  have he := jworld_get (I := I) hq0
  rw [jcell_int hi.2.1, hi.2.2] at he
  refine va_iast C.x C.b C.K hP (jworld_D C.ok I) hS q 0 he rfl hin d (fun H1 locs1 hP1 _ hS1 => ?_)
  refine h ls H1 locs1 hl (jP_set C.ok hq0 (I' := jwr I i x.toNatClampNeg v) (fun a ha => jwr_ne ha) ?_ hP1) hS1
  rw [jcell_int hi.2.1, hi.2.2, jwr_same]
theorem j_zastore (C : jC Z E cc nL own fR lR) {n i : Nat} {x v : Int32} (hi : jAB E n i) (hin : vp_in x n) (d : decode cc pc = .ok (.bastore, 1)) (h : jJ Z E nL Q (pc + 1) lv st (jwr I i x.toNatClampNeg (vp_nar .boolean v))) : jJ Z E nL Q pc lv (.int v :: .int x :: .ref (E.2.2.1 i) :: st) I := fun ls H locs hl hP hS => by
  obtain ⟨q, hq0⟩ := jmem_get hi.1
  have he := jworld_get (I := I) hq0
  rw [jcell_boo hi.2.1, hi.2.2] at he
  refine va_zast C.x C.b C.K hP (jworld_D C.ok I) hS q 1 he rfl hin d (fun H1 locs1 hP1 _ hS1 => ?_)
  refine h ls H1 locs1 hl (jP_set C.ok hq0 (I' := jwr I i x.toNatClampNeg (vp_nar .boolean v)) (fun a ha => jwr_ne ha) ?_ hP1) hS1
  rw [jcell_boo hi.2.1, hi.2.2, jwr_same]
theorem j_alen (C : jC Z E cc nL own fR lR) {n i : Nat} {v : Int32} (hi : jAI E n i) (hv : Int32.ofNat n = v) (d : decode cc pc = .ok (.arraylength, 1)) (h : jJ Z E nL Q (pc + 1) lv (.int v :: st) I) : jJ Z E nL Q pc lv (.ref (E.2.2.1 i) :: st) I := fun ls H locs hl hP hS => by
  obtain ⟨q, hq0⟩ := jmem_get hi.1
  have he := jworld_get (I := I) hq0
  rw [jcell_int hi.2.1, hi.2.2] at he
  exact va_alen C.x C.b C.K hP q 0 he (ty := .int) rfl hv d (h ls H locs hl hP hS)
theorem j_aaload (C : jC Z E cc nL own fR lR) {n i : Nat} {x : Int32} (hi : jAA E n i) (hin : vp_in x n) (d : decode cc pc = .ok (.aaload, 1)) (h : jJ Z E nL Q (pc + 1) lv (.ref (E.2.2.1 (jw i x.toNatClampNeg)) :: st) I) : jJ Z E nL Q pc lv (.int x :: .ref (E.2.2.1 i) :: st) I := fun ls H locs hl hP hS => by
  obtain ⟨q, hq0⟩ := jmem_get hi.1
  have he := jworld_get (I := I) hq0
  rw [jcell_arr hi.2.1, hi.2.2] at he
  have hlt : x.toNatClampNeg < n := Nat.not_le.mp fun q => hin (Or.inr q)
  have hat := hP q _ he
  exact W.aald (v := Value.ref (E.2.2.1 (jw i x.toNatClampNeg))) (ty := .array .int) C.x C.b hat ((C.K.2 2 _ rfl).1 n (fun j => va_rf (if j < n then some (E.2.2.1 (jw i j)) else none))) rfl (fun q => by cases q) (by show ¬ (x < 0 ∨ (arrV _ _ _).slots.size ≤ _); rw [arrV_size]; exact hin) (by show (arrV _ _ _).slots[_]? = _; rw [arrV_read _ _ hlt]; simp [hlt, va_rf]) rfl rfl d (h ls H locs hl hP hS)
end JM
end
section
/-! ===== the J layer: contracts, calls, answers ===== -/
/-- the world of a memory, in a state -/
def jB (E : jE) (I : jM) (U : State) : Prop := va_P E.1 jCl (jworld E I) U.heap ∧ va_K E.1 jCl (jtys E) U ∧ jN U
theorem jB_blind (E : jE) (I : jM) (as : List Value) : FrameBlind (va_Pc as (jB E I)) := fun a U g mk q => by
  obtain ⟨q0, qP, qK, qN⟩ := q
  exact ⟨q0, qP, va_K.moved (u := U) (U := U.calling g mk a) (Vm.Alike.refl U.vm) qK, jN.same (u := U) (U := U.calling g mk a) rfl qN⟩
/-- contracts: the answer and the memory behind the method are as K says (an int, nothing, a cell) -/
def jSi (l : Launch) (E : jE) (y : MethodName) (cc : ByteArray) (mL : Nat) (ret : Option FieldType) (f L : Nat) (as : List Value) (I : jM) (K : Int32 → jM → Prop) : Prop :=
  Met l y (.code y cc mL ret :: jtbl) ({ frames := f, cells := 0, slots := 0, locals := L } : Room) (va_Pc as (jB E I)) (va_Qi K (jB E) (jA E)) 0 0 (jA E)
def jSv (l : Launch) (E : jE) (y : MethodName) (cc : ByteArray) (mL : Nat) (ret : Option FieldType) (f L : Nat) (as : List Value) (I : jM) (K : jM → Prop) : Prop :=
  Met l y (.code y cc mL ret :: jtbl) ({ frames := f, cells := 0, slots := 0, locals := L } : Room) (va_Pc as (jB E I)) (va_Qv K (jB E) (jA E)) 0 0 (jA E)
def jSr (l : Launch) (E : jE) (y : MethodName) (cc : ByteArray) (mL : Nat) (ret : Option FieldType) (f L : Nat) (as : List Value) (I : jM) (K : Nat → jM → Prop) : Prop :=
  Met l y (.code y cc mL ret :: jtbl) ({ frames := f, cells := 0, slots := 0, locals := L } : Room) (va_Pc as (jB E I)) (va_Qr (fun u : Nat × jM => K u.1 u.2) (fun u a t => a = E.2.2.1 u.1 ∧ jB E u.2 t) (jA E)) 0 0 (jA E)
def jQi (Z : jZ) (E : jE) (K : Int32 → jM → Prop) : State → Prop := MQ (jZb Z) (va_Qi K (jB E) (jA E)) (jZa Z) (jZs Z) 0 0 (jA E)
def jQv (Z : jZ) (E : jE) (K : jM → Prop) : State → Prop := MQ (jZb Z) (va_Qv K (jB E) (jA E)) (jZa Z) (jZs Z) 0 0 (jA E)
def jQr (Z : jZ) (E : jE) (K : Nat → jM → Prop) : State → Prop := MQ (jZb Z) (va_Qr (fun u : Nat × jM => K u.1 u.2) (fun u a t => a = E.2.2.1 u.1 ∧ jB E u.2 t) (jA E)) (jZa Z) (jZs Z) 0 0 (jA E)
theorem jgood {w : Cond} (h : w ∈ jtbl) : (w.onTables && w.keeps) = true ∨ ∃ ty, w = .arrayClass ty := good_of_word (List.mem_filter.mp h).2
theorem jgoodIn {y : MethodName} {cc : ByteArray} {mL : Nat} {ret : Option FieldType} (h : Cond.code y cc mL ret ∈ jtbl) : GoodIn jtbl (.code y cc mL ret :: jtbl) := fun w hw => by
  rcases List.mem_cons.mp hw with e | hw
  · rw [e]; exact ⟨h, jgood h⟩
  · exact ⟨hw, jgood hw⟩
section JS
variable {l : Launch} {E : jE} {y : MethodName} {cc : ByteArray} {mL f L : Nat} {ret : Option FieldType} {as : List Value} {I : jM} {own : String}
theorem jS_of {Qc : Array Value → State → Outcome → State → Prop} (hy : plainName y.cls = true) (hown : y.cls = own) (hok : jOK E) (hlen : (lg_sl as).length ≤ mL)
    (body : ∀ Z : jZ, jZl Z = l → jC Z E cc mL own f L → (jZh Z).sig.returnType = ret → jJ Z E mL (MQ (jZb Z) Qc (jZa Z) (jZs Z) 0 0 (jA E)) 0 (lv_args 0 as) [] I) :
    Met l y (.code y cc mL ret :: jtbl) ({ frames := f, cells := 0, slots := 0, locals := L } : Room) (va_Pc as (jB E I)) Qc 0 0 (jA E) := by
  refine Met.ofW (cc := cc) (maxL := mL) (ret := ret) hy rfl ?_
  intro p e s m args below meth c s₁ B hml hv
  obtain ⟨rfl, hP, hK, hN⟩ := hv
  have hts := atoms_spec (ws := .code y cc mL ret :: jtbl) B.pre
  have ho : s.vm.findClass own = some m.cls := hown ▸ findClass_of_methodNamed B.named
  have hl := lv_entry as (n := mL) hlen
  rw [lg_entry_eq]
  exact body (p, l, e, (headSpec (.code y cc mL ret :: jtbl) ({ frames := f, cells := 0, slots := 0, locals := L } : Room)).room, s, m, as.toArray, below, meth, c) rfl ⟨B.exec, B.bytes, hml, ho, fun w hw => hts w (List.mem_cons_of_mem _ hw), hK, hN, hok, B.notSynchronized, Nat.le_refl _, Nat.le_refl _⟩ B.returns _ s.heap [] hl hP va_S.rf
end JS
section JR2
variable {Z : jZ} {E : jE} {cc : ByteArray} {nL : Nat} {own : String} {fR lR : Nat} {Q : State → Prop} {pc : Nat} {lv : List (Nat × Value)} {st : List Value} {I : jM}
theorem j_iret (C : jC Z E cc nL own fR lR) (hr : (jZh Z).sig.returnType = some .int) {K : Int32 → jM → Prop} {v : Int32} (d : decode cc pc = .ok (.ireturn, 1)) (h : K v I) : jJ Z E nL (jQi Z E K) pc lv [.int v] I := fun ls H locs hl hP hS =>
  W.iret C.x C.b hr (fun t ht hW => ⟨⟨v, I, rfl, h, by rw [ht]; exact hP, va_K.moved hW.alike C.K, C.N.warm hW⟩, hS.F ht⟩) hS.2.2 d C.lk
theorem j_zret (C : jC Z E cc nL own fR lR) (hr : (jZh Z).sig.returnType = some .boolean) {K : Int32 → jM → Prop} {v : Int32} (hn : narrow .boolean (.int v) = .int v) (d : decode cc pc = .ok (.ireturn, 1)) (h : K v I) : jJ Z E nL (jQi Z E K) pc lv [.int v] I := fun ls H locs hl hP hS =>
  W.zret C.x C.b hr hn (fun t ht hW => ⟨⟨v, I, rfl, h, by rw [ht]; exact hP, va_K.moved hW.alike C.K, C.N.warm hW⟩, hS.F ht⟩) hS.2.2 d C.lk
theorem j_vret (C : jC Z E cc nL own fR lR) (hr : (jZh Z).sig.returnType = none) {K : jM → Prop} (d : decode cc pc = .ok (.return_, 1)) (h : K I) : jJ Z E nL (jQv Z E K) pc lv [] I := fun ls H locs hl hP hS =>
  W.vret C.x C.b hr (fun t ht hW => ⟨⟨I, rfl, h, by rw [ht]; exact hP, va_K.moved hW.alike C.K, C.N.warm hW⟩, hS.F ht⟩) hS.2.2 d C.lk
theorem j_aret (C : jC Z E cc nL own fR lR) {n : String} (hr : (jZh Z).sig.returnType = some (.object n)) {K : Nat → jM → Prop} {v : Nat} (d : decode cc pc = .ok (.areturn, 1)) (h : K v I) : jJ Z E nL (jQr Z E K) pc lv [.ref (E.2.2.1 v)] I := fun ls H locs hl hP hS =>
  W.aret C.x C.b hr (Or.inl ⟨n, rfl⟩) (Or.inr ⟨_, rfl⟩) (fun t ht hW => ⟨⟨(v, I), _, rfl, h, rfl, by rw [ht]; exact hP, va_K.moved hW.alike C.K, C.N.warm hW⟩, hS.F ht⟩) hS.2.2 d C.lk
/-- what a call needs of the tables -/
def jcw (own : String) (idx : Nat) (y : MethodName) (bytes : ByteArray) (mL : Nat) (ret : Option FieldType) (n : Nat) : Prop :=
  Cond.code y bytes mL ret ∈ jtbl ∧ Cond.methodLink own idx y ∈ jtbl ∧ Cond.initialized y.cls ∈ jtbl ∧ (y.cls ≠ "java/lang/invoke/MethodHandle" ∧ y.cls ≠ "java/lang/invoke/VarHandle") ∧ (parseMethodDescriptor y.desc).map (fun d => d.parameters.length) = some n
theorem jcw_B (C : jC Z E cc nL own fR lR) {idx : Nat} {y : MethodName} {bytes : ByteArray} {mL n f L : Nat} {ret : Option FieldType} (w : jcw own idx y bytes mL ret n) (hf : f + 1 ≤ fR) (hl : 8 + (mL + 11) + L ≤ lR) : CallB (jZR Z) (jZs Z) (jZa Z) own idx y bytes mL ret (.code y bytes mL ret :: jtbl) ({ frames := f, cells := 0, slots := 0, locals := L } : Room) 0 0 n := by
  refine ⟨rfl, rfl, Nat.le_trans hf C.fr, Nat.le_trans hl C.lo, pay_in C.ts (jgoodIn w.1), List.mem_cons_self, C.ts _ w.1, C.ts _ w.2.2.1, w.2.2.2.1, fun sig h => ?_, C.ts _ w.2.1⟩
  have h2 := w.2.2.2.2
  rw [h] at h2
  exact (Option.some.inj h2).symm
theorem j_preV (C : jC Z E cc nL own fR lR) {H : Heap} {ci : Nat} {Cn : String} {F : u_T} {N : Nat} {ty : Nat → FieldType} (hc : jcl ci Cn F N ty) {b : Nat} (hb : jOB E ci b) (hP : va_P E.1 jCl (jworld E I) H) (As : List Value) : PreV (jZs Z) H Cn (E.2.2.1 b) (va_Pc (.ref (E.2.2.1 b) :: As) (jB E I)) As := by
  obtain ⟨q, hq0⟩ := jmem_get hb.1
  have he := jworld_get (I := I) hq0
  rw [jcell_obj hb.2 hc.2.2.1 hc.2.2.2.1 hc.2.2.2.2.1] at he
  exact ⟨jB_blind E I _, va_recv C.K hP hc.1 he, fun U hU hW => ⟨rfl, by rw [hU]; exact hP, va_K.moved hW.alike C.K, C.N.warm hW⟩⟩
theorem j_preS (C : jC Z E cc nL own fR lR) {H : Heap} (hP : va_P E.1 jCl (jworld E I) H) (As : List Value) : PreS (jZs Z) H (va_Pc As (jB E I)) As :=
  ⟨jB_blind E I _, fun U hU hW => ⟨rfl, by rw [hU]; exact hP, va_K.moved hW.alike C.K, C.N.warm hW⟩⟩
theorem j_callVi (C : jC Z E cc nL own fR lR) {ci : Nat} {Cn : String} {F : u_T} {N : Nat} {ty : Nat → FieldType} (hc : jcl ci Cn F N ty) {idx : Nat} {y : MethodName} {bytes : ByteArray} {mL n f L : Nat} {ret : Option FieldType} (w : jcw own idx y bytes mL ret n) (hin : Cond.instanceMethod y ∈ jtbl) (hse : Cond.selects Cn y y ∈ jtbl) {b : Nat} {As st0 : List Value} {K : Int32 → jM → Prop} (hb : jOB E ci b) (hn : As.length = n) (hst : st0 = As.reverse ++ Value.ref (E.2.2.1 b) :: st) (hf : f + 1 ≤ fR) (hl : 8 + (mL + 11) + L ≤ lR) (hW : (st.map fun v => v.category).sum ≤ 8) (d : decode cc pc = .ok (.invokevirtual idx, 3))
    (hM : jSi (jZl Z) E y bytes mL ret f L (.ref (E.2.2.1 b) :: As) I K) (h : ∀ r I', K r I' → jJ Z E nL Q (pc + 3) lv (.int r :: st) I') : jJ Z E nL Q pc lv st0 I := fun ls H locs hlv hP hS =>
  va_calli (va_runV (As := As) (rest := st) ⟨C.x, C.b, C.ml, C.own, C.ts⟩ hM ⟨jcw_B C w hf hl, C.ts _ hin, C.ts _ hse⟩ (j_preV C hc hb hP As) rfl hn hlv.1 hst (by show 2 * 0 + _ ≤ 8; omega) d ⟨Nat.zero_le _, Nat.zero_le _⟩) hS (fun q _ h => h) (fun q h => h) (fun r u t H1 locs1 ht _ hw hB _ _ hS1 => h r u hw ls H1 locs1 hlv (by rw [← ht]; exact hB.1) hS1)
theorem j_callVv (C : jC Z E cc nL own fR lR) {ci : Nat} {Cn : String} {F : u_T} {N : Nat} {ty : Nat → FieldType} (hc : jcl ci Cn F N ty) {idx : Nat} {y : MethodName} {bytes : ByteArray} {mL n f L : Nat} {ret : Option FieldType} (w : jcw own idx y bytes mL ret n) (hin : Cond.instanceMethod y ∈ jtbl) (hse : Cond.selects Cn y y ∈ jtbl) {b : Nat} {As st0 : List Value} {K : jM → Prop} (hb : jOB E ci b) (hn : As.length = n) (hst : st0 = As.reverse ++ Value.ref (E.2.2.1 b) :: st) (hf : f + 1 ≤ fR) (hl : 8 + (mL + 11) + L ≤ lR) (hW : (st.map fun v => v.category).sum ≤ 8) (d : decode cc pc = .ok (.invokevirtual idx, 3))
    (hM : jSv (jZl Z) E y bytes mL ret f L (.ref (E.2.2.1 b) :: As) I K) (h : ∀ I', K I' → jJ Z E nL Q (pc + 3) lv st I') : jJ Z E nL Q pc lv st0 I := fun ls H locs hlv hP hS =>
  va_callv (va_runV (As := As) (rest := st) ⟨C.x, C.b, C.ml, C.own, C.ts⟩ hM ⟨jcw_B C w hf hl, C.ts _ hin, C.ts _ hse⟩ (j_preV C hc hb hP As) rfl hn hlv.1 hst (by show 2 * 0 + _ ≤ 8; omega) d ⟨Nat.zero_le _, Nat.zero_le _⟩) hS (fun q _ h => h) (fun q h => h) (fun u t H1 locs1 ht _ hw hB _ _ hS1 => h u hw ls H1 locs1 hlv (by rw [← ht]; exact hB.1) hS1)
theorem j_callVr (C : jC Z E cc nL own fR lR) {ci : Nat} {Cn : String} {F : u_T} {N : Nat} {ty : Nat → FieldType} (hc : jcl ci Cn F N ty) {idx : Nat} {y : MethodName} {bytes : ByteArray} {mL n f L : Nat} {ret : Option FieldType} (w : jcw own idx y bytes mL ret n) (hin : Cond.instanceMethod y ∈ jtbl) (hse : Cond.selects Cn y y ∈ jtbl) {b : Nat} {As st0 : List Value} {K : Nat → jM → Prop} (hb : jOB E ci b) (hn : As.length = n) (hst : st0 = As.reverse ++ Value.ref (E.2.2.1 b) :: st) (hf : f + 1 ≤ fR) (hl : 8 + (mL + 11) + L ≤ lR) (hW : (st.map fun v => v.category).sum ≤ 8) (d : decode cc pc = .ok (.invokevirtual idx, 3))
    (hM : jSr (jZl Z) E y bytes mL ret f L (.ref (E.2.2.1 b) :: As) I K) (h : ∀ k I', K k I' → jJ Z E nL Q (pc + 3) lv (.ref (E.2.2.1 k) :: st) I') : jJ Z E nL Q pc lv st0 I := fun ls H locs hlv hP hS =>
  va_callr (va_runV (As := As) (rest := st) ⟨C.x, C.b, C.ml, C.own, C.ts⟩ hM ⟨jcw_B C w hf hl, C.ts _ hin, C.ts _ hse⟩ (j_preV C hc hb hP As) rfl hn hlv.1 hst (by show 2 * 0 + _ ≤ 8; omega) d ⟨Nat.zero_le _, Nat.zero_le _⟩) hS (fun q _ h => h) (fun q h => h) (fun u ra t H1 locs1 ht _ hw hB _ _ hS1 => by obtain ⟨rfl, hB⟩ := hB; exact h u.1 u.2 hw ls H1 locs1 hlv (by rw [← ht]; exact hB.1) hS1)
theorem j_callSi (C : jC Z E cc nL own fR lR) {idx : Nat} {y : MethodName} {bytes : ByteArray} {mL n f L : Nat} {ret : Option FieldType} (w : jcw own idx y bytes mL ret n) (hstat : Cond.static y ∈ jtbl) {As st0 : List Value} {K : Int32 → jM → Prop} (hn : As.length = n) (hst : st0 = As.reverse ++ st) (hf : f + 1 ≤ fR) (hl : 8 + (mL + 11) + L ≤ lR) (hW : (st.map fun v => v.category).sum ≤ 8) (d : decode cc pc = .ok (.invokestatic idx, 3))
    (hM : jSi (jZl Z) E y bytes mL ret f L As I K) (h : ∀ r I', K r I' → jJ Z E nL Q (pc + 3) lv (.int r :: st) I') : jJ Z E nL Q pc lv st0 I := fun ls H locs hlv hP hS =>
  va_calli (va_runS (As := As) (rest := st) ⟨C.x, C.b, C.ml, C.own, C.ts⟩ hM ⟨jcw_B C w hf hl, C.ts _ hstat⟩ (j_preS C hP As) rfl hn hlv.1 hst (by show 2 * 0 + _ ≤ 8; omega) d ⟨Nat.zero_le _, Nat.zero_le _⟩) hS (fun q _ h => h) (fun q h => h) (fun r u t H1 locs1 ht _ hw hB _ _ hS1 => h r u hw ls H1 locs1 hlv (by rw [← ht]; exact hB.1) hS1)
theorem j_callSv (C : jC Z E cc nL own fR lR) {idx : Nat} {y : MethodName} {bytes : ByteArray} {mL n f L : Nat} {ret : Option FieldType} (w : jcw own idx y bytes mL ret n) (hstat : Cond.static y ∈ jtbl) {As st0 : List Value} {K : jM → Prop} (hn : As.length = n) (hst : st0 = As.reverse ++ st) (hf : f + 1 ≤ fR) (hl : 8 + (mL + 11) + L ≤ lR) (hW : (st.map fun v => v.category).sum ≤ 8) (d : decode cc pc = .ok (.invokestatic idx, 3))
    (hM : jSv (jZl Z) E y bytes mL ret f L As I K) (h : ∀ I', K I' → jJ Z E nL Q (pc + 3) lv st I') : jJ Z E nL Q pc lv st0 I := fun ls H locs hlv hP hS =>
  va_callv (va_runS (As := As) (rest := st) ⟨C.x, C.b, C.ml, C.own, C.ts⟩ hM ⟨jcw_B C w hf hl, C.ts _ hstat⟩ (j_preS C hP As) rfl hn hlv.1 hst (by show 2 * 0 + _ ≤ 8; omega) d ⟨Nat.zero_le _, Nat.zero_le _⟩) hS (fun q _ h => h) (fun q h => h) (fun u t H1 locs1 ht _ hw hB _ _ hS1 => h u hw ls H1 locs1 hlv (by rw [← ht]; exact hB.1) hS1)
theorem j_copy (C : jC Z E cc nL own fR lR) {idx a b na nb : Nat} {sp dp n : Int32} (ha : jAI E na a) (hb : jAI E nb b) (hlink : Cond.methodLink own idx arraycopyName ∈ jtbl) (hnat : Cond.native arraycopyName ∈ jtbl) (hstat : Cond.static arraycopyName ∈ jtbl) (hini : Cond.initialized "java/lang/System" ∈ jtbl) (h1 : ¬ sp < 0) (h2 : ¬ dp < 0) (h3 : ¬ n < 0) (h4 : sp.toNatClampNeg + n.toNatClampNeg ≤ na) (h5 : dp.toNatClampNeg + n.toNatClampNeg ≤ nb) (hf : 1 ≤ fR) (hl : (st.map fun v => v.category).sum + (nativeFrameWords "java/lang/System" "arraycopy" 5 + 11) ≤ lR) (d : decode cc pc = .ok (.invokestatic idx, 3))
    (h : jJ Z E nL Q (pc + 3) lv st (jrow I b (va_cpy (I a) (I b) sp.toNatClampNeg dp.toNatClampNeg n.toNatClampNeg))) : jJ Z E nL Q pc lv (.int n :: .int dp :: .ref (E.2.2.1 b) :: .int sp :: .ref (E.2.2.1 a) :: st) I := fun ls H locs hlv hP hS => by
  obtain ⟨qa, hqa⟩ := jmem_get ha.1
  have hea := jworld_get (I := I) hqa
  rw [jcell_int ha.2.1, ha.2.2] at hea
  obtain ⟨qb, hqb⟩ := jmem_get hb.1
  have heb := jworld_get (I := I) hqb
  rw [jcell_int hb.2.1, hb.2.2] at heb
  refine va_copyi C.x C.b (C.ml.trans hlv.1.symm) C.own (C.ts _ hlink) (C.ts _ hnat) (C.ts _ hstat) (C.ts _ hini) C.K hP (jworld_D C.ok I) hS qa qb 0 0 (ty := .int) hea heb rfl rfl rfl h1 h2 h3 h4 h5 (fun _ _ => rfl) (Nat.le_trans hf C.fr) (Nat.le_trans hl C.lo) d (fun H1 locs1 hP1 _ hS1 => ?_)
  refine h ls H1 locs1 hlv (jP_set C.ok hqb (I' := jrow I b (va_cpy (I a) (I b) sp.toNatClampNeg dp.toNatClampNeg n.toNatClampNeg)) (fun x hx => jrow_ne hx) ?_ hP1) hS1
  rw [jcell_int hb.2.1, hb.2.2, jrow_same]
end JR2
/-- loops: the least fixed point; a walk is closed under it at once, a proof goes by a measure -/
def lp {σ : Type} (F : (σ → Prop) → σ → Prop) (s : σ) : Prop := ∀ X : σ → Prop, (∀ t, F X t → X t) → X s
theorem lp_i {σ : Type} {F : (σ → Prop) → σ → Prop} (V : σ → Prop) (μ : σ → Nat) (h : ∀ (t : σ) (X : σ → Prop), V t → (∀ t', V t' → μ t' < μ t → X t') → F X t) {s : σ} (hs : V s) : lp F s := by
  intro X hX
  have key : ∀ n t, V t → μ t < n → X t := by
    intro n
    induction n with
    | zero => intro t _ hn; exact absurd hn (Nat.not_lt_zero _)
    | succ n ih => intro t ht hn; exact hX t (h t X ht (fun t' ht' hlt => ih t' ht' (by omega)))
  exact key (μ s + 1) s hs (Nat.lt_succ_self _)
end
section
theorem w_1 : Cond.initialized "OutOrder" ∈ jtbl := jtbl_in 1 (by decide +kernel) (by decide +kernel)
theorem w_2 : Cond.initialized "OutOrder$Table" ∈ jtbl := jtbl_in 2 (by decide +kernel) (by decide +kernel)
theorem w_3 : Cond.initialized "OutOrder$Modulus" ∈ jtbl := jtbl_in 3 (by decide +kernel) (by decide +kernel)
theorem w_4 : Cond.initialized "OutOrder$Row" ∈ jtbl := jtbl_in 4 (by decide +kernel) (by decide +kernel)
theorem w_5 : Cond.initialized "OutOrder$Rules" ∈ jtbl := jtbl_in 5 (by decide +kernel) (by decide +kernel)
theorem w_6 : Cond.initialized "OutOrder$Net" ∈ jtbl := jtbl_in 6 (by decide +kernel) (by decide +kernel)
theorem w_7 : Cond.initialized "OutOrder$Least" ∈ jtbl := jtbl_in 7 (by decide +kernel) (by decide +kernel)
theorem w_8 : Cond.initialized "OutOrder$FullNet" ∈ jtbl := jtbl_in 8 (by decide +kernel) (by decide +kernel)
theorem w_9 : Cond.initialized "OutOrder$Going" ∈ jtbl := jtbl_in 9 (by decide +kernel) (by decide +kernel)
theorem w_10 : Cond.initialized "OutOrder$Work" ∈ jtbl := jtbl_in 10 (by decide +kernel) (by decide +kernel)
theorem w_11 : Cond.initialized "OutOrder$Plan" ∈ jtbl := jtbl_in 11 (by decide +kernel) (by decide +kernel)
theorem w_12 : Cond.initialized "OutOrderModel" ∈ jtbl := jtbl_in 12 (by decide +kernel) (by decide +kernel)
theorem w_13 : Cond.initialized "java/lang/Math" ∈ jtbl := jtbl_in 13 (by decide +kernel) (by decide +kernel)
theorem w_14 : Cond.initialized "java/lang/Integer" ∈ jtbl := jtbl_in 14 (by decide +kernel) (by decide +kernel)
theorem w_15 : Cond.initialized "java/lang/System" ∈ jtbl := jtbl_in 15 (by decide +kernel) (by decide +kernel)
theorem w_16 : Cond.initialized "OutOrder$Rings" ∈ jtbl := jtbl_in 16 (by decide +kernel) (by decide +kernel)
theorem w_37 : Cond.fieldLink "OutOrder$Modulus" 9 "OutOrder$Modulus" "p" "I" ∈ jtbl := jtbl_in 37 (by decide +kernel) (by decide +kernel)
theorem w_45 : Cond.fieldLink "OutOrder$Table" 12 "OutOrder$Table" "modulus" "LOutOrder$Modulus;" ∈ jtbl := jtbl_in 45 (by decide +kernel) (by decide +kernel)
theorem w_48 : Cond.fieldLink "OutOrder$Table" 20 "OutOrder$Table" "values" "[[I" ∈ jtbl := jtbl_in 48 (by decide +kernel) (by decide +kernel)
theorem w_51 : Cond.fieldLink "OutOrder$Table" 23 "OutOrder$Table" "joins" "[I" ∈ jtbl := jtbl_in 51 (by decide +kernel) (by decide +kernel)
theorem w_56 : Cond.fieldLink "OutOrder$Table" 27 "OutOrder$Table" "sides" "[I" ∈ jtbl := jtbl_in 56 (by decide +kernel) (by decide +kernel)
theorem w_59 : Cond.fieldLink "OutOrder$Table" 30 "OutOrder$Table" "n" "I" ∈ jtbl := jtbl_in 59 (by decide +kernel) (by decide +kernel)
theorem w_65 : Cond.fieldLink "OutOrder$Table" 37 "OutOrder$Table" "held" "I" ∈ jtbl := jtbl_in 65 (by decide +kernel) (by decide +kernel)
theorem w_88 : Cond.fieldLink "OutOrder$Row" 9 "OutOrder$Row" "unknowns" "[I" ∈ jtbl := jtbl_in 88 (by decide +kernel) (by decide +kernel)
theorem w_93 : Cond.fieldLink "OutOrder$Row" 15 "OutOrder$Row" "places" "[I" ∈ jtbl := jtbl_in 93 (by decide +kernel) (by decide +kernel)
theorem w_95 : Cond.fieldLink "OutOrder$Row" 18 "OutOrder$Row" "n" "I" ∈ jtbl := jtbl_in 95 (by decide +kernel) (by decide +kernel)
theorem w_117 : Cond.fieldLink "OutOrder$Net" 9 "OutOrder$Net" "near" "[I" ∈ jtbl := jtbl_in 117 (by decide +kernel) (by decide +kernel)
theorem w_123 : Cond.fieldLink "OutOrder$Net" 22 "OutOrder$Net" "left" "I" ∈ jtbl := jtbl_in 123 (by decide +kernel) (by decide +kernel)
theorem w_126 : Cond.fieldLink "OutOrder$Net" 15 "OutOrder$Net" "n" "I" ∈ jtbl := jtbl_in 126 (by decide +kernel) (by decide +kernel)
theorem w_137 : Cond.fieldLink "OutOrder$Rules" 12 "OutOrder$Rules" "net" "LOutOrder$Net;" ∈ jtbl := jtbl_in 137 (by decide +kernel) (by decide +kernel)
theorem w_150 : Cond.fieldLink "OutOrder$Least" 9 "OutOrder$Least" "sums" "[I" ∈ jtbl := jtbl_in 150 (by decide +kernel) (by decide +kernel)
theorem w_152 : Cond.fieldLink "OutOrder$Least" 15 "OutOrder$Least" "widths" "[I" ∈ jtbl := jtbl_in 152 (by decide +kernel) (by decide +kernel)
theorem w_154 : Cond.fieldLink "OutOrder$Least" 20 "OutOrder$Least" "nets" "[[I" ∈ jtbl := jtbl_in 154 (by decide +kernel) (by decide +kernel)
theorem w_155 : Cond.fieldLink "OutOrder$Least" 26 "OutOrder$Least" "net" "LOutOrder$Net;" ∈ jtbl := jtbl_in 155 (by decide +kernel) (by decide +kernel)
theorem w_173 : Cond.fieldLink "OutOrder$FullNet" 12 "OutOrder$FullNet" "net" "LOutOrder$Net;" ∈ jtbl := jtbl_in 173 (by decide +kernel) (by decide +kernel)
theorem w_174 : Cond.fieldLink "OutOrder$FullNet" 18 "OutOrder$FullNet" "pairs" "[I" ∈ jtbl := jtbl_in 174 (by decide +kernel) (by decide +kernel)
theorem w_176 : Cond.fieldLink "OutOrder$FullNet" 22 "OutOrder$FullNet" "behind" "[I" ∈ jtbl := jtbl_in 176 (by decide +kernel) (by decide +kernel)
theorem w_178 : Cond.fieldLink "OutOrder$FullNet" 25 "OutOrder$FullNet" "parents" "[I" ∈ jtbl := jtbl_in 178 (by decide +kernel) (by decide +kernel)
theorem w_180 : Cond.fieldLink "OutOrder$FullNet" 28 "OutOrder$FullNet" "heights" "[I" ∈ jtbl := jtbl_in 180 (by decide +kernel) (by decide +kernel)
theorem w_183 : Cond.fieldLink "OutOrder$FullNet" 31 "OutOrder$FullNet" "children" "[I" ∈ jtbl := jtbl_in 183 (by decide +kernel) (by decide +kernel)
theorem w_186 : Cond.fieldLink "OutOrder$FullNet" 34 "OutOrder$FullNet" "groups" "[I" ∈ jtbl := jtbl_in 186 (by decide +kernel) (by decide +kernel)
theorem w_188 : Cond.fieldLink "OutOrder$FullNet" 41 "OutOrder$FullNet" "fillCount" "I" ∈ jtbl := jtbl_in 188 (by decide +kernel) (by decide +kernel)
theorem w_190 : Cond.fieldLink "OutOrder$FullNet" 90 "OutOrder$FullNet" "groupCount" "I" ∈ jtbl := jtbl_in 190 (by decide +kernel) (by decide +kernel)
theorem w_192 : Cond.fieldLink "OutOrder$FullNet" 45 "OutOrder$FullNet" "widest" "I" ∈ jtbl := jtbl_in 192 (by decide +kernel) (by decide +kernel)
theorem w_223 : Cond.fieldLink "OutOrder$Going" 12 "OutOrder$Going" "net" "LOutOrder$Net;" ∈ jtbl := jtbl_in 223 (by decide +kernel) (by decide +kernel)
theorem w_225 : Cond.fieldLink "OutOrder$Going" 18 "OutOrder$Going" "gone" "[I" ∈ jtbl := jtbl_in 225 (by decide +kernel) (by decide +kernel)
theorem w_226 : Cond.fieldLink "OutOrder$Going" 26 "OutOrder$Going" "count" "I" ∈ jtbl := jtbl_in 226 (by decide +kernel) (by decide +kernel)
theorem w_242 : Cond.fieldLink "OutOrder$Work" 11 "OutOrder$Work" "ones" "[[I" ∈ jtbl := jtbl_in 242 (by decide +kernel) (by decide +kernel)
theorem w_243 : Cond.fieldLink "OutOrder$Work" 16 "OutOrder$Work" "pivots" "[I" ∈ jtbl := jtbl_in 243 (by decide +kernel) (by decide +kernel)
theorem w_245 : Cond.fieldLink "OutOrder$Work" 20 "OutOrder$Work" "inverses" "[I" ∈ jtbl := jtbl_in 245 (by decide +kernel) (by decide +kernel)
theorem w_246 : Cond.fieldLink "OutOrder$Work" 23 "OutOrder$Work" "answers" "[I" ∈ jtbl := jtbl_in 246 (by decide +kernel) (by decide +kernel)
theorem w_248 : Cond.fieldLink "OutOrder$Work" 30 "OutOrder$Work" "worked" "I" ∈ jtbl := jtbl_in 248 (by decide +kernel) (by decide +kernel)
theorem w_250 : Cond.fieldLink "OutOrder$Work" 26 "OutOrder$Work" "stuckPlace" "I" ∈ jtbl := jtbl_in 250 (by decide +kernel) (by decide +kernel)
theorem w_271 : Cond.fieldLink "OutOrder$Plan" 9 "OutOrder$Plan" "rounds" "[I" ∈ jtbl := jtbl_in 271 (by decide +kernel) (by decide +kernel)
theorem w_276 : Cond.methodLink "OutOrder" 69 ⟨"OutOrder", "startAnew", "(II)V"⟩ ∈ jtbl := jtbl_in 276 (by decide +kernel) (by decide +kernel)
theorem w_278 : Cond.instanceMethod ⟨"OutOrder", "startAnew", "(II)V"⟩ ∈ jtbl := jtbl_in 278 (by decide +kernel) (by decide +kernel)
theorem w_279 : Cond.code ⟨"OutOrder", "startAnew", "(II)V"⟩ prog_1_method_33_code 3 (Option.none : Option Jvm.ClassFile.FieldType) ∈ jtbl := jtbl_in 279 (by decide +kernel) (by decide +kernel)
theorem w_280 : Cond.methodLink "OutOrder" 270 ⟨"OutOrder$Table", "clear", "(II)V"⟩ ∈ jtbl := jtbl_in 280 (by decide +kernel) (by decide +kernel)
theorem w_281 : Cond.instanceMethod ⟨"OutOrder$Table", "clear", "(II)V"⟩ ∈ jtbl := jtbl_in 281 (by decide +kernel) (by decide +kernel)
theorem w_282 : Cond.selects "OutOrder$Table" ⟨"OutOrder$Table", "clear", "(II)V"⟩ ⟨"OutOrder$Table", "clear", "(II)V"⟩ ∈ jtbl := jtbl_in 282 (by decide +kernel) (by decide +kernel)
theorem w_283 : Cond.code ⟨"OutOrder$Table", "clear", "(II)V"⟩ prog_11_method_2_code 5 (Option.none : Option Jvm.ClassFile.FieldType) ∈ jtbl := jtbl_in 283 (by decide +kernel) (by decide +kernel)
theorem w_284 : Cond.methodLink "OutOrder" 273 ⟨"OutOrder$Row", "byNumbers", "(I)V"⟩ ∈ jtbl := jtbl_in 284 (by decide +kernel) (by decide +kernel)
theorem w_285 : Cond.instanceMethod ⟨"OutOrder$Row", "byNumbers", "(I)V"⟩ ∈ jtbl := jtbl_in 285 (by decide +kernel) (by decide +kernel)
theorem w_286 : Cond.selects "OutOrder$Row" ⟨"OutOrder$Row", "byNumbers", "(I)V"⟩ ⟨"OutOrder$Row", "byNumbers", "(I)V"⟩ ∈ jtbl := jtbl_in 286 (by decide +kernel) (by decide +kernel)
theorem w_287 : Cond.code ⟨"OutOrder$Row", "byNumbers", "(I)V"⟩ prog_9_method_2_code 3 (Option.none : Option Jvm.ClassFile.FieldType) ∈ jtbl := jtbl_in 287 (by decide +kernel) (by decide +kernel)
theorem w_288 : Cond.methodLink "OutOrder$Row" 22 ⟨"OutOrder$Row", "set", "(II)V"⟩ ∈ jtbl := jtbl_in 288 (by decide +kernel) (by decide +kernel)
theorem w_289 : Cond.instanceMethod ⟨"OutOrder$Row", "set", "(II)V"⟩ ∈ jtbl := jtbl_in 289 (by decide +kernel) (by decide +kernel)
theorem w_290 : Cond.selects "OutOrder$Row" ⟨"OutOrder$Row", "set", "(II)V"⟩ ⟨"OutOrder$Row", "set", "(II)V"⟩ ∈ jtbl := jtbl_in 290 (by decide +kernel) (by decide +kernel)
theorem w_291 : Cond.code ⟨"OutOrder$Row", "set", "(II)V"⟩ prog_9_method_3_code 3 (Option.none : Option Jvm.ClassFile.FieldType) ∈ jtbl := jtbl_in 291 (by decide +kernel) (by decide +kernel)
theorem w_292 : Cond.methodLink "OutOrder" 94 ⟨"OutOrder", "numbersChanged", "()V"⟩ ∈ jtbl := jtbl_in 292 (by decide +kernel) (by decide +kernel)
theorem w_294 : Cond.instanceMethod ⟨"OutOrder", "numbersChanged", "()V"⟩ ∈ jtbl := jtbl_in 294 (by decide +kernel) (by decide +kernel)
theorem w_295 : Cond.code ⟨"OutOrder", "numbersChanged", "()V"⟩ prog_1_method_34_code 1 (Option.none : Option Jvm.ClassFile.FieldType) ∈ jtbl := jtbl_in 295 (by decide +kernel) (by decide +kernel)
theorem w_296 : Cond.methodLink "OutOrder" 181 ⟨"OutOrder$Going", "restart", "(LOutOrder$Table;)V"⟩ ∈ jtbl := jtbl_in 296 (by decide +kernel) (by decide +kernel)
theorem w_297 : Cond.instanceMethod ⟨"OutOrder$Going", "restart", "(LOutOrder$Table;)V"⟩ ∈ jtbl := jtbl_in 297 (by decide +kernel) (by decide +kernel)
theorem w_298 : Cond.selects "OutOrder$Going" ⟨"OutOrder$Going", "restart", "(LOutOrder$Table;)V"⟩ ⟨"OutOrder$Going", "restart", "(LOutOrder$Table;)V"⟩ ∈ jtbl := jtbl_in 298 (by decide +kernel) (by decide +kernel)
theorem w_299 : Cond.code ⟨"OutOrder$Going", "restart", "(LOutOrder$Table;)V"⟩ prog_3_method_2_code 2 (Option.none : Option Jvm.ClassFile.FieldType) ∈ jtbl := jtbl_in 299 (by decide +kernel) (by decide +kernel)
theorem w_300 : Cond.methodLink "OutOrder$Going" 22 ⟨"OutOrder$Net", "take", "(LOutOrder$Table;)V"⟩ ∈ jtbl := jtbl_in 300 (by decide +kernel) (by decide +kernel)
theorem w_301 : Cond.instanceMethod ⟨"OutOrder$Net", "take", "(LOutOrder$Table;)V"⟩ ∈ jtbl := jtbl_in 301 (by decide +kernel) (by decide +kernel)
theorem w_302 : Cond.selects "OutOrder$Net" ⟨"OutOrder$Net", "take", "(LOutOrder$Table;)V"⟩ ⟨"OutOrder$Net", "take", "(LOutOrder$Table;)V"⟩ ∈ jtbl := jtbl_in 302 (by decide +kernel) (by decide +kernel)
theorem w_303 : Cond.code ⟨"OutOrder$Net", "take", "(LOutOrder$Table;)V"⟩ prog_6_method_2_code 3 (Option.none : Option Jvm.ClassFile.FieldType) ∈ jtbl := jtbl_in 303 (by decide +kernel) (by decide +kernel)
theorem w_304 : Cond.methodLink "OutOrder" 111 ⟨"OutOrder", "orderChanged", "()V"⟩ ∈ jtbl := jtbl_in 304 (by decide +kernel) (by decide +kernel)
theorem w_306 : Cond.instanceMethod ⟨"OutOrder", "orderChanged", "()V"⟩ ∈ jtbl := jtbl_in 306 (by decide +kernel) (by decide +kernel)
theorem w_307 : Cond.code ⟨"OutOrder", "orderChanged", "()V"⟩ prog_1_method_35_code 1 (Option.none : Option Jvm.ClassFile.FieldType) ∈ jtbl := jtbl_in 307 (by decide +kernel) (by decide +kernel)
theorem w_308 : Cond.methodLink "OutOrder" 283 ⟨"OutOrder$Work", "forget", "()V"⟩ ∈ jtbl := jtbl_in 308 (by decide +kernel) (by decide +kernel)
theorem w_309 : Cond.instanceMethod ⟨"OutOrder$Work", "forget", "()V"⟩ ∈ jtbl := jtbl_in 309 (by decide +kernel) (by decide +kernel)
theorem w_310 : Cond.selects "OutOrder$Work" ⟨"OutOrder$Work", "forget", "()V"⟩ ⟨"OutOrder$Work", "forget", "()V"⟩ ∈ jtbl := jtbl_in 310 (by decide +kernel) (by decide +kernel)
theorem w_311 : Cond.code ⟨"OutOrder$Work", "forget", "()V"⟩ prog_12_method_2_code 1 (Option.none : Option Jvm.ClassFile.FieldType) ∈ jtbl := jtbl_in 311 (by decide +kernel) (by decide +kernel)
theorem w_312 : Cond.fieldLink "OutOrder" 12 "OutOrder" "numbers" "LOutOrder$Table;" ∈ jtbl := jtbl_in 312 (by decide +kernel) (by decide +kernel)
theorem w_313 : Cond.fieldLink "OutOrder" 19 "OutOrder" "row" "LOutOrder$Row;" ∈ jtbl := jtbl_in 313 (by decide +kernel) (by decide +kernel)
theorem w_314 : Cond.fieldLink "OutOrder" 26 "OutOrder" "rules" "LOutOrder$Rules;" ∈ jtbl := jtbl_in 314 (by decide +kernel) (by decide +kernel)
theorem w_315 : Cond.fieldLink "OutOrder" 33 "OutOrder" "minima" "LOutOrder$Least;" ∈ jtbl := jtbl_in 315 (by decide +kernel) (by decide +kernel)
theorem w_316 : Cond.fieldLink "OutOrder" 40 "OutOrder" "full" "LOutOrder$FullNet;" ∈ jtbl := jtbl_in 316 (by decide +kernel) (by decide +kernel)
theorem w_317 : Cond.fieldLink "OutOrder" 47 "OutOrder" "state" "LOutOrder$Going;" ∈ jtbl := jtbl_in 317 (by decide +kernel) (by decide +kernel)
theorem w_318 : Cond.fieldLink "OutOrder" 54 "OutOrder" "factors" "LOutOrder$Work;" ∈ jtbl := jtbl_in 318 (by decide +kernel) (by decide +kernel)
theorem w_319 : Cond.fieldLink "OutOrder" 61 "OutOrder" "shares" "LOutOrder$Plan;" ∈ jtbl := jtbl_in 319 (by decide +kernel) (by decide +kernel)
theorem w_320 : Cond.fieldLink "OutOrder" 65 "OutOrder" "refusals" "[I" ∈ jtbl := jtbl_in 320 (by decide +kernel) (by decide +kernel)
theorem w_321 : Cond.fieldLink "OutOrder" 280 "OutOrder" "fullKnown" "Z" ∈ jtbl := jtbl_in 321 (by decide +kernel) (by decide +kernel)
theorem w_322 : Cond.fieldLink "OutOrder" 276 "OutOrder" "minimaKnown" "Z" ∈ jtbl := jtbl_in 322 (by decide +kernel) (by decide +kernel)
theorem w_350 : Cond.methodLink "OutOrder" 73 ⟨"OutOrder", "refuse", "(I)I"⟩ ∈ jtbl := jtbl_in 350 (by decide +kernel) (by decide +kernel)
theorem w_352 : Cond.instanceMethod ⟨"OutOrder", "refuse", "(I)I"⟩ ∈ jtbl := jtbl_in 352 (by decide +kernel) (by decide +kernel)
theorem w_353 : Cond.code ⟨"OutOrder", "refuse", "(I)I"⟩ prog_1_method_32_code 3 (Option.some Jvm.ClassFile.FieldType.int) ∈ jtbl := jtbl_in 353 (by decide +kernel) (by decide +kernel)
theorem w_354 : Cond.methodLink "OutOrder" 77 ⟨"OutOrder$Modulus", "isPrime", "(I)Z"⟩ ∈ jtbl := jtbl_in 354 (by decide +kernel) (by decide +kernel)
theorem w_355 : Cond.static ⟨"OutOrder$Modulus", "isPrime", "(I)Z"⟩ ∈ jtbl := jtbl_in 355 (by decide +kernel) (by decide +kernel)
theorem w_356 : Cond.code ⟨"OutOrder$Modulus", "isPrime", "(I)Z"⟩ prog_5_method_2_code 2 (Option.some Jvm.ClassFile.FieldType.boolean) ∈ jtbl := jtbl_in 356 (by decide +kernel) (by decide +kernel)
theorem w_361 : Cond.methodLink "OutOrder" 83 ⟨"OutOrder", "isNobody", "(I)Z"⟩ ∈ jtbl := jtbl_in 361 (by decide +kernel) (by decide +kernel)
theorem w_363 : Cond.instanceMethod ⟨"OutOrder", "isNobody", "(I)Z"⟩ ∈ jtbl := jtbl_in 363 (by decide +kernel) (by decide +kernel)
theorem w_364 : Cond.code ⟨"OutOrder", "isNobody", "(I)Z"⟩ prog_1_method_31_code 2 (Option.some Jvm.ClassFile.FieldType.boolean) ∈ jtbl := jtbl_in 364 (by decide +kernel) (by decide +kernel)
theorem w_365 : Cond.methodLink "OutOrder" 90 ⟨"OutOrder$Table", "set", "(III)V"⟩ ∈ jtbl := jtbl_in 365 (by decide +kernel) (by decide +kernel)
theorem w_366 : Cond.instanceMethod ⟨"OutOrder$Table", "set", "(III)V"⟩ ∈ jtbl := jtbl_in 366 (by decide +kernel) (by decide +kernel)
theorem w_367 : Cond.selects "OutOrder$Table" ⟨"OutOrder$Table", "set", "(III)V"⟩ ⟨"OutOrder$Table", "set", "(III)V"⟩ ∈ jtbl := jtbl_in 367 (by decide +kernel) (by decide +kernel)
theorem w_368 : Cond.code ⟨"OutOrder$Table", "set", "(III)V"⟩ prog_11_method_3_code 5 (Option.none : Option Jvm.ClassFile.FieldType) ∈ jtbl := jtbl_in 368 (by decide +kernel) (by decide +kernel)
theorem w_369 : Cond.methodLink "OutOrder$Table" 40 ⟨"OutOrder$Modulus", "reduce", "(I)I"⟩ ∈ jtbl := jtbl_in 369 (by decide +kernel) (by decide +kernel)
theorem w_370 : Cond.instanceMethod ⟨"OutOrder$Modulus", "reduce", "(I)I"⟩ ∈ jtbl := jtbl_in 370 (by decide +kernel) (by decide +kernel)
theorem w_371 : Cond.selects "OutOrder$Modulus" ⟨"OutOrder$Modulus", "reduce", "(I)I"⟩ ⟨"OutOrder$Modulus", "reduce", "(I)I"⟩ ∈ jtbl := jtbl_in 371 (by decide +kernel) (by decide +kernel)
theorem w_372 : Cond.code ⟨"OutOrder$Modulus", "reduce", "(I)I"⟩ prog_5_method_3_code 2 (Option.some Jvm.ClassFile.FieldType.int) ∈ jtbl := jtbl_in 372 (by decide +kernel) (by decide +kernel)
theorem w_373 : Cond.methodLink "OutOrder$Modulus" 15 ⟨"java/lang/Math", "floorMod", "(II)I"⟩ ∈ jtbl := jtbl_in 373 (by decide +kernel) (by decide +kernel)
theorem w_374 : Cond.static ⟨"java/lang/Math", "floorMod", "(II)I"⟩ ∈ jtbl := jtbl_in 374 (by decide +kernel) (by decide +kernel)
theorem w_375 : Cond.code ⟨"java/lang/Math", "floorMod", "(II)I"⟩ prog_16_method_50_code 3 (Option.some Jvm.ClassFile.FieldType.int) ∈ jtbl := jtbl_in 375 (by decide +kernel) (by decide +kernel)
theorem w_384 : Cond.methodLink "OutOrder" 97 ⟨"OutOrder$Table", "isHeld", "(I)Z"⟩ ∈ jtbl := jtbl_in 384 (by decide +kernel) (by decide +kernel)
theorem w_385 : Cond.instanceMethod ⟨"OutOrder$Table", "isHeld", "(I)Z"⟩ ∈ jtbl := jtbl_in 385 (by decide +kernel) (by decide +kernel)
theorem w_386 : Cond.selects "OutOrder$Table" ⟨"OutOrder$Table", "isHeld", "(I)Z"⟩ ⟨"OutOrder$Table", "isHeld", "(I)Z"⟩ ∈ jtbl := jtbl_in 386 (by decide +kernel) (by decide +kernel)
theorem w_387 : Cond.code ⟨"OutOrder$Table", "isHeld", "(I)Z"⟩ prog_11_method_4_code 2 (Option.some Jvm.ClassFile.FieldType.boolean) ∈ jtbl := jtbl_in 387 (by decide +kernel) (by decide +kernel)
theorem w_392 : Cond.methodLink "OutOrder" 107 ⟨"OutOrder", "arrange", "(I)V"⟩ ∈ jtbl := jtbl_in 392 (by decide +kernel) (by decide +kernel)
theorem w_394 : Cond.instanceMethod ⟨"OutOrder", "arrange", "(I)V"⟩ ∈ jtbl := jtbl_in 394 (by decide +kernel) (by decide +kernel)
theorem w_395 : Cond.code ⟨"OutOrder", "arrange", "(I)V"⟩ prog_1_method_36_code 2 (Option.none : Option Jvm.ClassFile.FieldType) ∈ jtbl := jtbl_in 395 (by decide +kernel) (by decide +kernel)
theorem w_396 : Cond.methodLink "OutOrder" 286 ⟨"OutOrder$Row", "turn", "()V"⟩ ∈ jtbl := jtbl_in 396 (by decide +kernel) (by decide +kernel)
theorem w_397 : Cond.instanceMethod ⟨"OutOrder$Row", "turn", "()V"⟩ ∈ jtbl := jtbl_in 397 (by decide +kernel) (by decide +kernel)
theorem w_398 : Cond.selects "OutOrder$Row" ⟨"OutOrder$Row", "turn", "()V"⟩ ⟨"OutOrder$Row", "turn", "()V"⟩ ∈ jtbl := jtbl_in 398 (by decide +kernel) (by decide +kernel)
theorem w_399 : Cond.code ⟨"OutOrder$Row", "turn", "()V"⟩ prog_9_method_5_code 2 (Option.none : Option Jvm.ClassFile.FieldType) ∈ jtbl := jtbl_in 399 (by decide +kernel) (by decide +kernel)
theorem w_400 : Cond.methodLink "OutOrder$Row" 26 ⟨"OutOrder$Row", "exchange", "(II)V"⟩ ∈ jtbl := jtbl_in 400 (by decide +kernel) (by decide +kernel)
theorem w_401 : Cond.instanceMethod ⟨"OutOrder$Row", "exchange", "(II)V"⟩ ∈ jtbl := jtbl_in 401 (by decide +kernel) (by decide +kernel)
theorem w_402 : Cond.selects "OutOrder$Row" ⟨"OutOrder$Row", "exchange", "(II)V"⟩ ⟨"OutOrder$Row", "exchange", "(II)V"⟩ ∈ jtbl := jtbl_in 402 (by decide +kernel) (by decide +kernel)
theorem w_403 : Cond.code ⟨"OutOrder$Row", "exchange", "(II)V"⟩ prog_9_method_4_code 4 (Option.none : Option Jvm.ClassFile.FieldType) ∈ jtbl := jtbl_in 403 (by decide +kernel) (by decide +kernel)
theorem w_404 : Cond.methodLink "OutOrder" 289 ⟨"OutOrder$Rules", "search", "(LOutOrder$Table;LOutOrder$Row;)V"⟩ ∈ jtbl := jtbl_in 404 (by decide +kernel) (by decide +kernel)
theorem w_405 : Cond.instanceMethod ⟨"OutOrder$Rules", "search", "(LOutOrder$Table;LOutOrder$Row;)V"⟩ ∈ jtbl := jtbl_in 405 (by decide +kernel) (by decide +kernel)
theorem w_406 : Cond.selects "OutOrder$Rules" ⟨"OutOrder$Rules", "search", "(LOutOrder$Table;LOutOrder$Row;)V"⟩ ⟨"OutOrder$Rules", "search", "(LOutOrder$Table;LOutOrder$Row;)V"⟩ ∈ jtbl := jtbl_in 406 (by decide +kernel) (by decide +kernel)
theorem w_407 : Cond.code ⟨"OutOrder$Rules", "search", "(LOutOrder$Table;LOutOrder$Row;)V"⟩ prog_10_method_5_code 6 (Option.none : Option Jvm.ClassFile.FieldType) ∈ jtbl := jtbl_in 407 (by decide +kernel) (by decide +kernel)
theorem w_408 : Cond.methodLink "OutOrder$Rules" 65 ⟨"OutOrder$Rules", "mostJoined", "(LOutOrder$Table;I)I"⟩ ∈ jtbl := jtbl_in 408 (by decide +kernel) (by decide +kernel)
theorem w_409 : Cond.static ⟨"OutOrder$Rules", "mostJoined", "(LOutOrder$Table;I)I"⟩ ∈ jtbl := jtbl_in 409 (by decide +kernel) (by decide +kernel)
theorem w_410 : Cond.code ⟨"OutOrder$Rules", "mostJoined", "(LOutOrder$Table;I)I"⟩ prog_10_method_6_code 6 (Option.some Jvm.ClassFile.FieldType.int) ∈ jtbl := jtbl_in 410 (by decide +kernel) (by decide +kernel)
theorem w_411 : Cond.methodLink "OutOrder$Rules" 56 ⟨"java/lang/Integer", "bitCount", "(I)I"⟩ ∈ jtbl := jtbl_in 411 (by decide +kernel) (by decide +kernel)
theorem w_412 : Cond.static ⟨"java/lang/Integer", "bitCount", "(I)I"⟩ ∈ jtbl := jtbl_in 412 (by decide +kernel) (by decide +kernel)
theorem w_413 : Cond.code ⟨"java/lang/Integer", "bitCount", "(I)I"⟩ prog_15_method_49_code 1 (Option.some Jvm.ClassFile.FieldType.int) ∈ jtbl := jtbl_in 413 (by decide +kernel) (by decide +kernel)
theorem w_414 : Cond.constant "java/lang/Integer" 265 (1431655765 : Int32) ∈ jtbl := jtbl_in 414 (by decide +kernel) (by decide +kernel)
theorem w_415 : Cond.constant "java/lang/Integer" 266 (858993459 : Int32) ∈ jtbl := jtbl_in 415 (by decide +kernel) (by decide +kernel)
theorem w_416 : Cond.constant "java/lang/Integer" 267 (252645135 : Int32) ∈ jtbl := jtbl_in 416 (by decide +kernel) (by decide +kernel)
theorem w_417 : Cond.methodLink "OutOrder$Rules" 38 ⟨"OutOrder$Row", "set", "(II)V"⟩ ∈ jtbl := jtbl_in 417 (by decide +kernel) (by decide +kernel)
theorem w_418 : Cond.methodLink "OutOrder" 168 ⟨"OutOrder", "knownMinima", "()LOutOrder$Least;"⟩ ∈ jtbl := jtbl_in 418 (by decide +kernel) (by decide +kernel)
theorem w_420 : Cond.instanceMethod ⟨"OutOrder", "knownMinima", "()LOutOrder$Least;"⟩ ∈ jtbl := jtbl_in 420 (by decide +kernel) (by decide +kernel)
theorem w_421 : Cond.code ⟨"OutOrder", "knownMinima", "()LOutOrder$Least;"⟩ prog_1_method_38_code 1 (Option.some (Jvm.ClassFile.FieldType.object "OutOrder$Least")) ∈ jtbl := jtbl_in 421 (by decide +kernel) (by decide +kernel)
theorem w_422 : Cond.methodLink "OutOrder" 301 ⟨"OutOrder$Least", "reckon", "(LOutOrder$Table;)V"⟩ ∈ jtbl := jtbl_in 422 (by decide +kernel) (by decide +kernel)
theorem w_423 : Cond.instanceMethod ⟨"OutOrder$Least", "reckon", "(LOutOrder$Table;)V"⟩ ∈ jtbl := jtbl_in 423 (by decide +kernel) (by decide +kernel)
theorem w_424 : Cond.selects "OutOrder$Least" ⟨"OutOrder$Least", "reckon", "(LOutOrder$Table;)V"⟩ ⟨"OutOrder$Least", "reckon", "(LOutOrder$Table;)V"⟩ ∈ jtbl := jtbl_in 424 (by decide +kernel) (by decide +kernel)
theorem w_425 : Cond.code ⟨"OutOrder$Least", "reckon", "(LOutOrder$Table;)V"⟩ prog_4_method_2_code 7 (Option.none : Option Jvm.ClassFile.FieldType) ∈ jtbl := jtbl_in 425 (by decide +kernel) (by decide +kernel)
theorem w_426 : Cond.methodLink "OutOrder$Least" 39 ⟨"OutOrder$Least", "makeNet", "(III)V"⟩ ∈ jtbl := jtbl_in 426 (by decide +kernel) (by decide +kernel)
theorem w_428 : Cond.instanceMethod ⟨"OutOrder$Least", "makeNet", "(III)V"⟩ ∈ jtbl := jtbl_in 428 (by decide +kernel) (by decide +kernel)
theorem w_429 : Cond.code ⟨"OutOrder$Least", "makeNet", "(III)V"⟩ prog_4_method_3_code 4 (Option.none : Option Jvm.ClassFile.FieldType) ∈ jtbl := jtbl_in 429 (by decide +kernel) (by decide +kernel)
theorem w_430 : Cond.methodLink "OutOrder$Least" 47 ⟨"OutOrder$Net", "copyWithout", "(I[I[II)V"⟩ ∈ jtbl := jtbl_in 430 (by decide +kernel) (by decide +kernel)
theorem w_431 : Cond.static ⟨"OutOrder$Net", "copyWithout", "(I[I[II)V"⟩ ∈ jtbl := jtbl_in 431 (by decide +kernel) (by decide +kernel)
theorem w_432 : Cond.code ⟨"OutOrder$Net", "copyWithout", "(I[I[II)V"⟩ prog_6_method_6_code 7 (Option.none : Option Jvm.ClassFile.FieldType) ∈ jtbl := jtbl_in 432 (by decide +kernel) (by decide +kernel)
theorem w_433 : Cond.methodLink "OutOrder$Least" 51 ⟨"java/lang/System", "arraycopy", "(Ljava/lang/Object;ILjava/lang/Object;II)V"⟩ ∈ jtbl := jtbl_in 433 (by decide +kernel) (by decide +kernel)
theorem w_434 : Cond.static ⟨"java/lang/System", "arraycopy", "(Ljava/lang/Object;ILjava/lang/Object;II)V"⟩ ∈ jtbl := jtbl_in 434 (by decide +kernel) (by decide +kernel)
theorem w_435 : Cond.native ⟨"java/lang/System", "arraycopy", "(Ljava/lang/Object;ILjava/lang/Object;II)V"⟩ ∈ jtbl := jtbl_in 435 (by decide +kernel) (by decide +kernel)
theorem w_436 : Cond.methodLink "OutOrder$Least" 43 ⟨"OutOrder$Least", "weigh", "(II)V"⟩ ∈ jtbl := jtbl_in 436 (by decide +kernel) (by decide +kernel)
theorem w_438 : Cond.instanceMethod ⟨"OutOrder$Least", "weigh", "(II)V"⟩ ∈ jtbl := jtbl_in 438 (by decide +kernel) (by decide +kernel)
theorem w_439 : Cond.code ⟨"OutOrder$Least", "weigh", "(II)V"⟩ prog_4_method_4_code 8 (Option.none : Option Jvm.ClassFile.FieldType) ∈ jtbl := jtbl_in 439 (by decide +kernel) (by decide +kernel)
theorem w_440 : Cond.methodLink "OutOrder$Least" 57 ⟨"java/lang/Integer", "bitCount", "(I)I"⟩ ∈ jtbl := jtbl_in 440 (by decide +kernel) (by decide +kernel)
theorem w_441 : Cond.methodLink "OutOrder$Least" 63 ⟨"java/lang/Math", "min", "(II)I"⟩ ∈ jtbl := jtbl_in 441 (by decide +kernel) (by decide +kernel)
theorem w_442 : Cond.static ⟨"java/lang/Math", "min", "(II)I"⟩ ∈ jtbl := jtbl_in 442 (by decide +kernel) (by decide +kernel)
theorem w_443 : Cond.code ⟨"java/lang/Math", "min", "(II)I"⟩ prog_16_method_69_code 2 (Option.some Jvm.ClassFile.FieldType.int) ∈ jtbl := jtbl_in 443 (by decide +kernel) (by decide +kernel)
theorem w_444 : Cond.methodLink "OutOrder$Least" 69 ⟨"java/lang/Math", "max", "(II)I"⟩ ∈ jtbl := jtbl_in 444 (by decide +kernel) (by decide +kernel)
theorem w_445 : Cond.static ⟨"java/lang/Math", "max", "(II)I"⟩ ∈ jtbl := jtbl_in 445 (by decide +kernel) (by decide +kernel)
theorem w_446 : Cond.code ⟨"java/lang/Math", "max", "(II)I"⟩ prog_16_method_65_code 2 (Option.some Jvm.ClassFile.FieldType.int) ∈ jtbl := jtbl_in 446 (by decide +kernel) (by decide +kernel)
theorem w_447 : Cond.methodLink "OutOrder" 292 ⟨"OutOrder$Least", "walk", "(LOutOrder$Table;LOutOrder$Row;Z)V"⟩ ∈ jtbl := jtbl_in 447 (by decide +kernel) (by decide +kernel)
theorem w_448 : Cond.instanceMethod ⟨"OutOrder$Least", "walk", "(LOutOrder$Table;LOutOrder$Row;Z)V"⟩ ∈ jtbl := jtbl_in 448 (by decide +kernel) (by decide +kernel)
theorem w_449 : Cond.selects "OutOrder$Least" ⟨"OutOrder$Least", "walk", "(LOutOrder$Table;LOutOrder$Row;Z)V"⟩ ⟨"OutOrder$Least", "walk", "(LOutOrder$Table;LOutOrder$Row;Z)V"⟩ ∈ jtbl := jtbl_in 449 (by decide +kernel) (by decide +kernel)
theorem w_450 : Cond.code ⟨"OutOrder$Least", "walk", "(LOutOrder$Table;LOutOrder$Row;Z)V"⟩ prog_4_method_5_code 7 (Option.none : Option Jvm.ClassFile.FieldType) ∈ jtbl := jtbl_in 450 (by decide +kernel) (by decide +kernel)
theorem w_451 : Cond.methodLink "OutOrder$Least" 72 ⟨"OutOrder$Net", "take", "(LOutOrder$Table;)V"⟩ ∈ jtbl := jtbl_in 451 (by decide +kernel) (by decide +kernel)
theorem w_452 : Cond.methodLink "OutOrder$Least" 76 ⟨"OutOrder$Least", "firstGood", "(IZ)I"⟩ ∈ jtbl := jtbl_in 452 (by decide +kernel) (by decide +kernel)
theorem w_454 : Cond.instanceMethod ⟨"OutOrder$Least", "firstGood", "(IZ)I"⟩ ∈ jtbl := jtbl_in 454 (by decide +kernel) (by decide +kernel)
theorem w_455 : Cond.code ⟨"OutOrder$Least", "firstGood", "(IZ)I"⟩ prog_4_method_6_code 4 (Option.some Jvm.ClassFile.FieldType.int) ∈ jtbl := jtbl_in 455 (by decide +kernel) (by decide +kernel)
theorem w_456 : Cond.methodLink "OutOrder$Least" 90 ⟨"OutOrder$Net", "has", "(I)Z"⟩ ∈ jtbl := jtbl_in 456 (by decide +kernel) (by decide +kernel)
theorem w_457 : Cond.instanceMethod ⟨"OutOrder$Net", "has", "(I)Z"⟩ ∈ jtbl := jtbl_in 457 (by decide +kernel) (by decide +kernel)
theorem w_458 : Cond.selects "OutOrder$Net" ⟨"OutOrder$Net", "has", "(I)Z"⟩ ⟨"OutOrder$Net", "has", "(I)Z"⟩ ∈ jtbl := jtbl_in 458 (by decide +kernel) (by decide +kernel)
theorem w_459 : Cond.code ⟨"OutOrder$Net", "has", "(I)Z"⟩ prog_6_method_3_code 2 (Option.some Jvm.ClassFile.FieldType.boolean) ∈ jtbl := jtbl_in 459 (by decide +kernel) (by decide +kernel)
theorem w_460 : Cond.methodLink "OutOrder$Least" 94 ⟨"OutOrder$Least", "isGood", "(IIZ)Z"⟩ ∈ jtbl := jtbl_in 460 (by decide +kernel) (by decide +kernel)
theorem w_462 : Cond.instanceMethod ⟨"OutOrder$Least", "isGood", "(IIZ)Z"⟩ ∈ jtbl := jtbl_in 462 (by decide +kernel) (by decide +kernel)
theorem w_463 : Cond.code ⟨"OutOrder$Least", "isGood", "(IIZ)Z"⟩ prog_4_method_7_code 6 (Option.some Jvm.ClassFile.FieldType.boolean) ∈ jtbl := jtbl_in 463 (by decide +kernel) (by decide +kernel)
theorem w_464 : Cond.methodLink "OutOrder$Least" 80 ⟨"OutOrder$Row", "set", "(II)V"⟩ ∈ jtbl := jtbl_in 464 (by decide +kernel) (by decide +kernel)
theorem w_465 : Cond.methodLink "OutOrder$Least" 85 ⟨"OutOrder$Net", "remove", "(I)V"⟩ ∈ jtbl := jtbl_in 465 (by decide +kernel) (by decide +kernel)
theorem w_466 : Cond.instanceMethod ⟨"OutOrder$Net", "remove", "(I)V"⟩ ∈ jtbl := jtbl_in 466 (by decide +kernel) (by decide +kernel)
theorem w_467 : Cond.selects "OutOrder$Net" ⟨"OutOrder$Net", "remove", "(I)V"⟩ ⟨"OutOrder$Net", "remove", "(I)V"⟩ ∈ jtbl := jtbl_in 467 (by decide +kernel) (by decide +kernel)
theorem w_468 : Cond.code ⟨"OutOrder$Net", "remove", "(I)V"⟩ prog_6_method_5_code 2 (Option.none : Option Jvm.ClassFile.FieldType) ∈ jtbl := jtbl_in 468 (by decide +kernel) (by decide +kernel)
theorem w_469 : Cond.methodLink "OutOrder$Net" 34 ⟨"OutOrder$Net", "copyWithout", "(I[I[II)V"⟩ ∈ jtbl := jtbl_in 469 (by decide +kernel) (by decide +kernel)
theorem w_470 : Cond.methodLink "OutOrder" 296 ⟨"OutOrder$Rules", "greedy", "(ILOutOrder$Table;LOutOrder$Row;)V"⟩ ∈ jtbl := jtbl_in 470 (by decide +kernel) (by decide +kernel)
theorem w_471 : Cond.instanceMethod ⟨"OutOrder$Rules", "greedy", "(ILOutOrder$Table;LOutOrder$Row;)V"⟩ ∈ jtbl := jtbl_in 471 (by decide +kernel) (by decide +kernel)
theorem w_472 : Cond.selects "OutOrder$Rules" ⟨"OutOrder$Rules", "greedy", "(ILOutOrder$Table;LOutOrder$Row;)V"⟩ ⟨"OutOrder$Rules", "greedy", "(ILOutOrder$Table;LOutOrder$Row;)V"⟩ ∈ jtbl := jtbl_in 472 (by decide +kernel) (by decide +kernel)
theorem w_473 : Cond.code ⟨"OutOrder$Rules", "greedy", "(ILOutOrder$Table;LOutOrder$Row;)V"⟩ prog_10_method_2_code 7 (Option.none : Option Jvm.ClassFile.FieldType) ∈ jtbl := jtbl_in 473 (by decide +kernel) (by decide +kernel)
theorem w_474 : Cond.methodLink "OutOrder$Rules" 18 ⟨"OutOrder$Net", "take", "(LOutOrder$Table;)V"⟩ ∈ jtbl := jtbl_in 474 (by decide +kernel) (by decide +kernel)
theorem w_475 : Cond.methodLink "OutOrder$Rules" 34 ⟨"OutOrder$Rules", "cheapest", "(II)I"⟩ ∈ jtbl := jtbl_in 475 (by decide +kernel) (by decide +kernel)
theorem w_477 : Cond.instanceMethod ⟨"OutOrder$Rules", "cheapest", "(II)I"⟩ ∈ jtbl := jtbl_in 477 (by decide +kernel) (by decide +kernel)
theorem w_478 : Cond.code ⟨"OutOrder$Rules", "cheapest", "(II)I"⟩ prog_10_method_3_code 6 (Option.some Jvm.ClassFile.FieldType.int) ∈ jtbl := jtbl_in 478 (by decide +kernel) (by decide +kernel)
theorem w_479 : Cond.methodLink "OutOrder$Rules" 49 ⟨"OutOrder$Rules", "cost", "(II)I"⟩ ∈ jtbl := jtbl_in 479 (by decide +kernel) (by decide +kernel)
theorem w_481 : Cond.instanceMethod ⟨"OutOrder$Rules", "cost", "(II)I"⟩ ∈ jtbl := jtbl_in 481 (by decide +kernel) (by decide +kernel)
theorem w_482 : Cond.code ⟨"OutOrder$Rules", "cost", "(II)I"⟩ prog_10_method_4_code 3 (Option.some Jvm.ClassFile.FieldType.int) ∈ jtbl := jtbl_in 482 (by decide +kernel) (by decide +kernel)
theorem w_483 : Cond.methodLink "OutOrder$Rules" 62 ⟨"OutOrder$Net", "missing", "(I)I"⟩ ∈ jtbl := jtbl_in 483 (by decide +kernel) (by decide +kernel)
theorem w_484 : Cond.instanceMethod ⟨"OutOrder$Net", "missing", "(I)I"⟩ ∈ jtbl := jtbl_in 484 (by decide +kernel) (by decide +kernel)
theorem w_485 : Cond.selects "OutOrder$Net" ⟨"OutOrder$Net", "missing", "(I)I"⟩ ⟨"OutOrder$Net", "missing", "(I)I"⟩ ∈ jtbl := jtbl_in 485 (by decide +kernel) (by decide +kernel)
theorem w_486 : Cond.code ⟨"OutOrder$Net", "missing", "(I)I"⟩ prog_6_method_4_code 5 (Option.some Jvm.ClassFile.FieldType.int) ∈ jtbl := jtbl_in 486 (by decide +kernel) (by decide +kernel)
theorem w_487 : Cond.methodLink "OutOrder$Net" 28 ⟨"java/lang/Integer", "bitCount", "(I)I"⟩ ∈ jtbl := jtbl_in 487 (by decide +kernel) (by decide +kernel)
theorem w_488 : Cond.methodLink "OutOrder$Rules" 44 ⟨"OutOrder$Net", "remove", "(I)V"⟩ ∈ jtbl := jtbl_in 488 (by decide +kernel) (by decide +kernel)
theorem w_489 : Cond.methodLink "OutOrder" 114 ⟨"OutOrder", "fullNet", "()LOutOrder$FullNet;"⟩ ∈ jtbl := jtbl_in 489 (by decide +kernel) (by decide +kernel)
theorem w_491 : Cond.instanceMethod ⟨"OutOrder", "fullNet", "()LOutOrder$FullNet;"⟩ ∈ jtbl := jtbl_in 491 (by decide +kernel) (by decide +kernel)
theorem w_492 : Cond.code ⟨"OutOrder", "fullNet", "()LOutOrder$FullNet;"⟩ prog_1_method_37_code 1 (Option.some (Jvm.ClassFile.FieldType.object "OutOrder$FullNet")) ∈ jtbl := jtbl_in 492 (by decide +kernel) (by decide +kernel)
theorem w_493 : Cond.methodLink "OutOrder" 300 ⟨"OutOrder$FullNet", "reckon", "(LOutOrder$Table;LOutOrder$Row;)V"⟩ ∈ jtbl := jtbl_in 493 (by decide +kernel) (by decide +kernel)
theorem w_494 : Cond.instanceMethod ⟨"OutOrder$FullNet", "reckon", "(LOutOrder$Table;LOutOrder$Row;)V"⟩ ∈ jtbl := jtbl_in 494 (by decide +kernel) (by decide +kernel)
theorem w_495 : Cond.selects "OutOrder$FullNet" ⟨"OutOrder$FullNet", "reckon", "(LOutOrder$Table;LOutOrder$Row;)V"⟩ ⟨"OutOrder$FullNet", "reckon", "(LOutOrder$Table;LOutOrder$Row;)V"⟩ ∈ jtbl := jtbl_in 495 (by decide +kernel) (by decide +kernel)
theorem w_496 : Cond.code ⟨"OutOrder$FullNet", "reckon", "(LOutOrder$Table;LOutOrder$Row;)V"⟩ prog_2_method_2_code 5 (Option.none : Option Jvm.ClassFile.FieldType) ∈ jtbl := jtbl_in 496 (by decide +kernel) (by decide +kernel)
theorem w_497 : Cond.methodLink "OutOrder$FullNet" 37 ⟨"OutOrder$Net", "take", "(LOutOrder$Table;)V"⟩ ∈ jtbl := jtbl_in 497 (by decide +kernel) (by decide +kernel)
theorem w_498 : Cond.methodLink "OutOrder$FullNet" 59 ⟨"java/lang/Integer", "bitCount", "(I)I"⟩ ∈ jtbl := jtbl_in 498 (by decide +kernel) (by decide +kernel)
theorem w_499 : Cond.methodLink "OutOrder$FullNet" 65 ⟨"java/lang/Math", "max", "(II)I"⟩ ∈ jtbl := jtbl_in 499 (by decide +kernel) (by decide +kernel)
theorem w_500 : Cond.methodLink "OutOrder$FullNet" 71 ⟨"OutOrder$FullNet", "listFills", "(I)V"⟩ ∈ jtbl := jtbl_in 500 (by decide +kernel) (by decide +kernel)
theorem w_502 : Cond.instanceMethod ⟨"OutOrder$FullNet", "listFills", "(I)V"⟩ ∈ jtbl := jtbl_in 502 (by decide +kernel) (by decide +kernel)
theorem w_503 : Cond.code ⟨"OutOrder$FullNet", "listFills", "(I)V"⟩ prog_2_method_3_code 5 (Option.none : Option Jvm.ClassFile.FieldType) ∈ jtbl := jtbl_in 503 (by decide +kernel) (by decide +kernel)
theorem w_504 : Cond.methodLink "OutOrder$FullNet" 75 ⟨"OutOrder$Net", "remove", "(I)V"⟩ ∈ jtbl := jtbl_in 504 (by decide +kernel) (by decide +kernel)
theorem w_505 : Cond.methodLink "OutOrder$FullNet" 78 ⟨"OutOrder$FullNet", "makeTree", "(LOutOrder$Row;)V"⟩ ∈ jtbl := jtbl_in 505 (by decide +kernel) (by decide +kernel)
theorem w_507 : Cond.instanceMethod ⟨"OutOrder$FullNet", "makeTree", "(LOutOrder$Row;)V"⟩ ∈ jtbl := jtbl_in 507 (by decide +kernel) (by decide +kernel)
theorem w_508 : Cond.code ⟨"OutOrder$FullNet", "makeTree", "(LOutOrder$Row;)V"⟩ prog_2_method_4_code 5 (Option.none : Option Jvm.ClassFile.FieldType) ∈ jtbl := jtbl_in 508 (by decide +kernel) (by decide +kernel)
theorem w_509 : Cond.methodLink "OutOrder$FullNet" 86 ⟨"OutOrder$FullNet", "firstOf", "(ILOutOrder$Row;)I"⟩ ∈ jtbl := jtbl_in 509 (by decide +kernel) (by decide +kernel)
theorem w_510 : Cond.static ⟨"OutOrder$FullNet", "firstOf", "(ILOutOrder$Row;)I"⟩ ∈ jtbl := jtbl_in 510 (by decide +kernel) (by decide +kernel)
theorem w_511 : Cond.code ⟨"OutOrder$FullNet", "firstOf", "(ILOutOrder$Row;)I"⟩ prog_2_method_5_code 3 (Option.some Jvm.ClassFile.FieldType.int) ∈ jtbl := jtbl_in 511 (by decide +kernel) (by decide +kernel)
theorem w_512 : Cond.methodLink "OutOrder$FullNet" 82 ⟨"OutOrder$FullNet", "makeGroups", "(I)V"⟩ ∈ jtbl := jtbl_in 512 (by decide +kernel) (by decide +kernel)
theorem w_514 : Cond.instanceMethod ⟨"OutOrder$FullNet", "makeGroups", "(I)V"⟩ ∈ jtbl := jtbl_in 514 (by decide +kernel) (by decide +kernel)
theorem w_515 : Cond.code ⟨"OutOrder$FullNet", "makeGroups", "(I)V"⟩ prog_2_method_6_code 3 (Option.none : Option Jvm.ClassFile.FieldType) ∈ jtbl := jtbl_in 515 (by decide +kernel) (by decide +kernel)
theorem w_516 : Cond.methodLink "OutOrder$FullNet" 93 ⟨"OutOrder$FullNet", "isWithinAnother", "(II)Z"⟩ ∈ jtbl := jtbl_in 516 (by decide +kernel) (by decide +kernel)
theorem w_518 : Cond.instanceMethod ⟨"OutOrder$FullNet", "isWithinAnother", "(II)Z"⟩ ∈ jtbl := jtbl_in 518 (by decide +kernel) (by decide +kernel)
theorem w_519 : Cond.code ⟨"OutOrder$FullNet", "isWithinAnother", "(II)Z"⟩ prog_2_method_7_code 5 (Option.some Jvm.ClassFile.FieldType.boolean) ∈ jtbl := jtbl_in 519 (by decide +kernel) (by decide +kernel)
theorem w_520 : Cond.methodLink "OutOrder$FullNet" 97 ⟨"OutOrder$FullNet", "insertGroup", "(I)V"⟩ ∈ jtbl := jtbl_in 520 (by decide +kernel) (by decide +kernel)
theorem w_522 : Cond.instanceMethod ⟨"OutOrder$FullNet", "insertGroup", "(I)V"⟩ ∈ jtbl := jtbl_in 522 (by decide +kernel) (by decide +kernel)
theorem w_523 : Cond.code ⟨"OutOrder$FullNet", "insertGroup", "(I)V"⟩ prog_2_method_8_code 3 (Option.none : Option Jvm.ClassFile.FieldType) ∈ jtbl := jtbl_in 523 (by decide +kernel) (by decide +kernel)
theorem w_528 : Cond.methodLink "OutOrder" 121 ⟨"OutOrder$Row", "exchange", "(II)V"⟩ ∈ jtbl := jtbl_in 528 (by decide +kernel) (by decide +kernel)
theorem w_545 : Cond.methodLink "OutOrder" 136 ⟨"java/lang/Integer", "bitCount", "(I)I"⟩ ∈ jtbl := jtbl_in 545 (by decide +kernel) (by decide +kernel)
theorem w_558 : Cond.methodLink "OutOrder" 162 ⟨"OutOrder$Rings", "shortest", "(I[I)I"⟩ ∈ jtbl := jtbl_in 558 (by decide +kernel) (by decide +kernel)
theorem w_559 : Cond.static ⟨"OutOrder$Rings", "shortest", "(I[I)I"⟩ ∈ jtbl := jtbl_in 559 (by decide +kernel) (by decide +kernel)
theorem w_560 : Cond.code ⟨"OutOrder$Rings", "shortest", "(I[I)I"⟩ prog_8_method_2_code 6 (Option.some Jvm.ClassFile.FieldType.int) ∈ jtbl := jtbl_in 560 (by decide +kernel) (by decide +kernel)
theorem w_561 : Cond.methodLink "OutOrder$Rings" 7 ⟨"OutOrder$Rings", "along", "(III[I)I"⟩ ∈ jtbl := jtbl_in 561 (by decide +kernel) (by decide +kernel)
theorem w_562 : Cond.static ⟨"OutOrder$Rings", "along", "(III[I)I"⟩ ∈ jtbl := jtbl_in 562 (by decide +kernel) (by decide +kernel)
theorem w_563 : Cond.code ⟨"OutOrder$Rings", "along", "(III[I)I"⟩ prog_8_method_3_code 9 (Option.some Jvm.ClassFile.FieldType.int) ∈ jtbl := jtbl_in 563 (by decide +kernel) (by decide +kernel)
theorem w_564 : Cond.methodLink "OutOrder$Rings" 13 ⟨"OutOrder$Rings", "joinedWith", "(II[I)I"⟩ ∈ jtbl := jtbl_in 564 (by decide +kernel) (by decide +kernel)
theorem w_565 : Cond.static ⟨"OutOrder$Rings", "joinedWith", "(II[I)I"⟩ ∈ jtbl := jtbl_in 565 (by decide +kernel) (by decide +kernel)
theorem w_566 : Cond.code ⟨"OutOrder$Rings", "joinedWith", "(II[I)I"⟩ prog_8_method_4_code 5 (Option.some Jvm.ClassFile.FieldType.int) ∈ jtbl := jtbl_in 566 (by decide +kernel) (by decide +kernel)
theorem w_575 : Cond.methodLink "OutOrder" 175 ⟨"OutOrder$Table", "pairs", "()I"⟩ ∈ jtbl := jtbl_in 575 (by decide +kernel) (by decide +kernel)
theorem w_576 : Cond.instanceMethod ⟨"OutOrder$Table", "pairs", "()I"⟩ ∈ jtbl := jtbl_in 576 (by decide +kernel) (by decide +kernel)
theorem w_577 : Cond.selects "OutOrder$Table" ⟨"OutOrder$Table", "pairs", "()I"⟩ ⟨"OutOrder$Table", "pairs", "()I"⟩ ∈ jtbl := jtbl_in 577 (by decide +kernel) (by decide +kernel)
theorem w_578 : Cond.code ⟨"OutOrder$Table", "pairs", "()I"⟩ prog_11_method_5_code 3 (Option.some Jvm.ClassFile.FieldType.int) ∈ jtbl := jtbl_in 578 (by decide +kernel) (by decide +kernel)
theorem w_579 : Cond.methodLink "OutOrder$Table" 44 ⟨"java/lang/Integer", "bitCount", "(I)I"⟩ ∈ jtbl := jtbl_in 579 (by decide +kernel) (by decide +kernel)
theorem w_588 : Cond.methodLink "OutOrder" 189 ⟨"OutOrder$Net", "has", "(I)Z"⟩ ∈ jtbl := jtbl_in 588 (by decide +kernel) (by decide +kernel)
theorem w_589 : Cond.methodLink "OutOrder" 194 ⟨"OutOrder$Net", "missing", "(I)I"⟩ ∈ jtbl := jtbl_in 589 (by decide +kernel) (by decide +kernel)
theorem w_590 : Cond.methodLink "OutOrder" 197 ⟨"OutOrder$Going", "sendOut", "(I)V"⟩ ∈ jtbl := jtbl_in 590 (by decide +kernel) (by decide +kernel)
theorem w_591 : Cond.instanceMethod ⟨"OutOrder$Going", "sendOut", "(I)V"⟩ ∈ jtbl := jtbl_in 591 (by decide +kernel) (by decide +kernel)
theorem w_592 : Cond.selects "OutOrder$Going" ⟨"OutOrder$Going", "sendOut", "(I)V"⟩ ⟨"OutOrder$Going", "sendOut", "(I)V"⟩ ∈ jtbl := jtbl_in 592 (by decide +kernel) (by decide +kernel)
theorem w_593 : Cond.code ⟨"OutOrder$Going", "sendOut", "(I)V"⟩ prog_3_method_3_code 2 (Option.none : Option Jvm.ClassFile.FieldType) ∈ jtbl := jtbl_in 593 (by decide +kernel) (by decide +kernel)
theorem w_594 : Cond.methodLink "OutOrder$Going" 30 ⟨"OutOrder$Net", "remove", "(I)V"⟩ ∈ jtbl := jtbl_in 594 (by decide +kernel) (by decide +kernel)
theorem w_599 : Cond.methodLink "OutOrder" 200 ⟨"OutOrder$Going", "kind", "(II)I"⟩ ∈ jtbl := jtbl_in 599 (by decide +kernel) (by decide +kernel)
theorem w_600 : Cond.instanceMethod ⟨"OutOrder$Going", "kind", "(II)I"⟩ ∈ jtbl := jtbl_in 600 (by decide +kernel) (by decide +kernel)
theorem w_601 : Cond.selects "OutOrder$Going" ⟨"OutOrder$Going", "kind", "(II)I"⟩ ⟨"OutOrder$Going", "kind", "(II)I"⟩ ∈ jtbl := jtbl_in 601 (by decide +kernel) (by decide +kernel)
theorem w_602 : Cond.code ⟨"OutOrder$Going", "kind", "(II)I"⟩ prog_3_method_5_code 3 (Option.some Jvm.ClassFile.FieldType.int) ∈ jtbl := jtbl_in 602 (by decide +kernel) (by decide +kernel)
theorem w_603 : Cond.methodLink "OutOrder$Going" 40 ⟨"OutOrder$Going", "isTwin", "(I)Z"⟩ ∈ jtbl := jtbl_in 603 (by decide +kernel) (by decide +kernel)
theorem w_605 : Cond.instanceMethod ⟨"OutOrder$Going", "isTwin", "(I)Z"⟩ ∈ jtbl := jtbl_in 605 (by decide +kernel) (by decide +kernel)
theorem w_606 : Cond.code ⟨"OutOrder$Going", "isTwin", "(I)Z"⟩ prog_3_method_6_code 5 (Option.some Jvm.ClassFile.FieldType.boolean) ∈ jtbl := jtbl_in 606 (by decide +kernel) (by decide +kernel)
theorem w_607 : Cond.methodLink "OutOrder$Going" 44 ⟨"OutOrder$Net", "missing", "(I)I"⟩ ∈ jtbl := jtbl_in 607 (by decide +kernel) (by decide +kernel)
theorem w_612 : Cond.methodLink "OutOrder" 207 ⟨"OutOrder$Going", "undo", "(LOutOrder$Table;)I"⟩ ∈ jtbl := jtbl_in 612 (by decide +kernel) (by decide +kernel)
theorem w_613 : Cond.instanceMethod ⟨"OutOrder$Going", "undo", "(LOutOrder$Table;)I"⟩ ∈ jtbl := jtbl_in 613 (by decide +kernel) (by decide +kernel)
theorem w_614 : Cond.selects "OutOrder$Going" ⟨"OutOrder$Going", "undo", "(LOutOrder$Table;)I"⟩ ⟨"OutOrder$Going", "undo", "(LOutOrder$Table;)I"⟩ ∈ jtbl := jtbl_in 614 (by decide +kernel) (by decide +kernel)
theorem w_615 : Cond.code ⟨"OutOrder$Going", "undo", "(LOutOrder$Table;)I"⟩ prog_3_method_4_code 3 (Option.some Jvm.ClassFile.FieldType.int) ∈ jtbl := jtbl_in 615 (by decide +kernel) (by decide +kernel)
theorem w_620 : Cond.methodLink "OutOrder" 211 ⟨"OutOrder$Work", "reckon", "(LOutOrder$Table;LOutOrder$Row;)V"⟩ ∈ jtbl := jtbl_in 620 (by decide +kernel) (by decide +kernel)
theorem w_621 : Cond.instanceMethod ⟨"OutOrder$Work", "reckon", "(LOutOrder$Table;LOutOrder$Row;)V"⟩ ∈ jtbl := jtbl_in 621 (by decide +kernel) (by decide +kernel)
theorem w_622 : Cond.selects "OutOrder$Work" ⟨"OutOrder$Work", "reckon", "(LOutOrder$Table;LOutOrder$Row;)V"⟩ ⟨"OutOrder$Work", "reckon", "(LOutOrder$Table;LOutOrder$Row;)V"⟩ ∈ jtbl := jtbl_in 622 (by decide +kernel) (by decide +kernel)
theorem w_623 : Cond.code ⟨"OutOrder$Work", "reckon", "(LOutOrder$Table;LOutOrder$Row;)V"⟩ prog_12_method_3_code 4 (Option.none : Option Jvm.ClassFile.FieldType) ∈ jtbl := jtbl_in 623 (by decide +kernel) (by decide +kernel)
theorem w_624 : Cond.methodLink "OutOrder$Work" 33 ⟨"OutOrder$Work", "forget", "()V"⟩ ∈ jtbl := jtbl_in 624 (by decide +kernel) (by decide +kernel)
theorem w_625 : Cond.methodLink "OutOrder$Work" 36 ⟨"OutOrder$Work", "takeNumbers", "(LOutOrder$Table;LOutOrder$Row;)V"⟩ ∈ jtbl := jtbl_in 625 (by decide +kernel) (by decide +kernel)
theorem w_627 : Cond.instanceMethod ⟨"OutOrder$Work", "takeNumbers", "(LOutOrder$Table;LOutOrder$Row;)V"⟩ ∈ jtbl := jtbl_in 627 (by decide +kernel) (by decide +kernel)
theorem w_628 : Cond.code ⟨"OutOrder$Work", "takeNumbers", "(LOutOrder$Table;LOutOrder$Row;)V"⟩ prog_12_method_4_code 5 (Option.none : Option Jvm.ClassFile.FieldType) ∈ jtbl := jtbl_in 628 (by decide +kernel) (by decide +kernel)
theorem w_629 : Cond.methodLink "OutOrder$Work" 49 ⟨"OutOrder$Modulus", "inverse", "(I)I"⟩ ∈ jtbl := jtbl_in 629 (by decide +kernel) (by decide +kernel)
theorem w_630 : Cond.instanceMethod ⟨"OutOrder$Modulus", "inverse", "(I)I"⟩ ∈ jtbl := jtbl_in 630 (by decide +kernel) (by decide +kernel)
theorem w_631 : Cond.selects "OutOrder$Modulus" ⟨"OutOrder$Modulus", "inverse", "(I)I"⟩ ⟨"OutOrder$Modulus", "inverse", "(I)I"⟩ ∈ jtbl := jtbl_in 631 (by decide +kernel) (by decide +kernel)
theorem w_632 : Cond.code ⟨"OutOrder$Modulus", "inverse", "(I)I"⟩ prog_5_method_5_code 5 (Option.some Jvm.ClassFile.FieldType.int) ∈ jtbl := jtbl_in 632 (by decide +kernel) (by decide +kernel)
theorem w_633 : Cond.methodLink "OutOrder$Modulus" 25 ⟨"OutOrder$Modulus", "times", "(II)I"⟩ ∈ jtbl := jtbl_in 633 (by decide +kernel) (by decide +kernel)
theorem w_634 : Cond.instanceMethod ⟨"OutOrder$Modulus", "times", "(II)I"⟩ ∈ jtbl := jtbl_in 634 (by decide +kernel) (by decide +kernel)
theorem w_635 : Cond.selects "OutOrder$Modulus" ⟨"OutOrder$Modulus", "times", "(II)I"⟩ ⟨"OutOrder$Modulus", "times", "(II)I"⟩ ∈ jtbl := jtbl_in 635 (by decide +kernel) (by decide +kernel)
theorem w_636 : Cond.code ⟨"OutOrder$Modulus", "times", "(II)I"⟩ prog_5_method_4_code 3 (Option.some Jvm.ClassFile.FieldType.int) ∈ jtbl := jtbl_in 636 (by decide +kernel) (by decide +kernel)
theorem w_637 : Cond.methodLink "OutOrder$Modulus" 21 ⟨"OutOrder$Modulus", "reduce", "(I)I"⟩ ∈ jtbl := jtbl_in 637 (by decide +kernel) (by decide +kernel)
theorem w_638 : Cond.methodLink "OutOrder$Work" 55 ⟨"OutOrder$Work", "hasRest", "(II)Z"⟩ ∈ jtbl := jtbl_in 638 (by decide +kernel) (by decide +kernel)
theorem w_640 : Cond.instanceMethod ⟨"OutOrder$Work", "hasRest", "(II)Z"⟩ ∈ jtbl := jtbl_in 640 (by decide +kernel) (by decide +kernel)
theorem w_641 : Cond.code ⟨"OutOrder$Work", "hasRest", "(II)Z"⟩ prog_12_method_5_code 4 (Option.some Jvm.ClassFile.FieldType.boolean) ∈ jtbl := jtbl_in 641 (by decide +kernel) (by decide +kernel)
theorem w_642 : Cond.methodLink "OutOrder$Work" 59 ⟨"OutOrder$Work", "eliminate", "(IILOutOrder$Modulus;)V"⟩ ∈ jtbl := jtbl_in 642 (by decide +kernel) (by decide +kernel)
theorem w_644 : Cond.instanceMethod ⟨"OutOrder$Work", "eliminate", "(IILOutOrder$Modulus;)V"⟩ ∈ jtbl := jtbl_in 644 (by decide +kernel) (by decide +kernel)
theorem w_645 : Cond.code ⟨"OutOrder$Work", "eliminate", "(IILOutOrder$Modulus;)V"⟩ prog_12_method_6_code 7 (Option.none : Option Jvm.ClassFile.FieldType) ∈ jtbl := jtbl_in 645 (by decide +kernel) (by decide +kernel)
theorem w_646 : Cond.methodLink "OutOrder$Work" 71 ⟨"OutOrder$Modulus", "times", "(II)I"⟩ ∈ jtbl := jtbl_in 646 (by decide +kernel) (by decide +kernel)
theorem w_647 : Cond.methodLink "OutOrder$Work" 75 ⟨"OutOrder$Modulus", "reduce", "(I)I"⟩ ∈ jtbl := jtbl_in 647 (by decide +kernel) (by decide +kernel)
theorem w_656 : Cond.methodLink "OutOrder" 224 ⟨"OutOrder$Work", "share", "(II)I"⟩ ∈ jtbl := jtbl_in 656 (by decide +kernel) (by decide +kernel)
theorem w_657 : Cond.instanceMethod ⟨"OutOrder$Work", "share", "(II)I"⟩ ∈ jtbl := jtbl_in 657 (by decide +kernel) (by decide +kernel)
theorem w_658 : Cond.selects "OutOrder$Work" ⟨"OutOrder$Work", "share", "(II)I"⟩ ⟨"OutOrder$Work", "share", "(II)I"⟩ ∈ jtbl := jtbl_in 658 (by decide +kernel) (by decide +kernel)
theorem w_659 : Cond.code ⟨"OutOrder$Work", "share", "(II)I"⟩ prog_12_method_7_code 3 (Option.some Jvm.ClassFile.FieldType.int) ∈ jtbl := jtbl_in 659 (by decide +kernel) (by decide +kernel)
theorem w_664 : Cond.methodLink "OutOrder" 227 ⟨"OutOrder$Work", "product", "(LOutOrder$Table;)I"⟩ ∈ jtbl := jtbl_in 664 (by decide +kernel) (by decide +kernel)
theorem w_665 : Cond.instanceMethod ⟨"OutOrder$Work", "product", "(LOutOrder$Table;)I"⟩ ∈ jtbl := jtbl_in 665 (by decide +kernel) (by decide +kernel)
theorem w_666 : Cond.selects "OutOrder$Work" ⟨"OutOrder$Work", "product", "(LOutOrder$Table;)I"⟩ ⟨"OutOrder$Work", "product", "(LOutOrder$Table;)I"⟩ ∈ jtbl := jtbl_in 666 (by decide +kernel) (by decide +kernel)
theorem w_667 : Cond.code ⟨"OutOrder$Work", "product", "(LOutOrder$Table;)I"⟩ prog_12_method_8_code 4 (Option.some Jvm.ClassFile.FieldType.int) ∈ jtbl := jtbl_in 667 (by decide +kernel) (by decide +kernel)
theorem w_672 : Cond.methodLink "OutOrder" 237 ⟨"OutOrder$Modulus", "reduce", "(I)I"⟩ ∈ jtbl := jtbl_in 672 (by decide +kernel) (by decide +kernel)
theorem w_677 : Cond.methodLink "OutOrder" 240 ⟨"OutOrder$Work", "canDivide", "(I)Z"⟩ ∈ jtbl := jtbl_in 677 (by decide +kernel) (by decide +kernel)
theorem w_678 : Cond.instanceMethod ⟨"OutOrder$Work", "canDivide", "(I)Z"⟩ ∈ jtbl := jtbl_in 678 (by decide +kernel) (by decide +kernel)
theorem w_679 : Cond.selects "OutOrder$Work" ⟨"OutOrder$Work", "canDivide", "(I)Z"⟩ ⟨"OutOrder$Work", "canDivide", "(I)Z"⟩ ∈ jtbl := jtbl_in 679 (by decide +kernel) (by decide +kernel)
theorem w_680 : Cond.code ⟨"OutOrder$Work", "canDivide", "(I)Z"⟩ prog_12_method_9_code 3 (Option.some Jvm.ClassFile.FieldType.boolean) ∈ jtbl := jtbl_in 680 (by decide +kernel) (by decide +kernel)
theorem w_681 : Cond.methodLink "OutOrder" 243 ⟨"OutOrder$Work", "takeSides", "(LOutOrder$Table;LOutOrder$Row;)V"⟩ ∈ jtbl := jtbl_in 681 (by decide +kernel) (by decide +kernel)
theorem w_682 : Cond.instanceMethod ⟨"OutOrder$Work", "takeSides", "(LOutOrder$Table;LOutOrder$Row;)V"⟩ ∈ jtbl := jtbl_in 682 (by decide +kernel) (by decide +kernel)
theorem w_683 : Cond.selects "OutOrder$Work" ⟨"OutOrder$Work", "takeSides", "(LOutOrder$Table;LOutOrder$Row;)V"⟩ ⟨"OutOrder$Work", "takeSides", "(LOutOrder$Table;LOutOrder$Row;)V"⟩ ∈ jtbl := jtbl_in 683 (by decide +kernel) (by decide +kernel)
theorem w_684 : Cond.code ⟨"OutOrder$Work", "takeSides", "(LOutOrder$Table;LOutOrder$Row;)V"⟩ prog_12_method_10_code 4 (Option.none : Option Jvm.ClassFile.FieldType) ∈ jtbl := jtbl_in 684 (by decide +kernel) (by decide +kernel)
theorem w_685 : Cond.methodLink "OutOrder" 246 ⟨"OutOrder$Work", "resolve", "(LOutOrder$Table;)V"⟩ ∈ jtbl := jtbl_in 685 (by decide +kernel) (by decide +kernel)
theorem w_686 : Cond.instanceMethod ⟨"OutOrder$Work", "resolve", "(LOutOrder$Table;)V"⟩ ∈ jtbl := jtbl_in 686 (by decide +kernel) (by decide +kernel)
theorem w_687 : Cond.selects "OutOrder$Work" ⟨"OutOrder$Work", "resolve", "(LOutOrder$Table;)V"⟩ ⟨"OutOrder$Work", "resolve", "(LOutOrder$Table;)V"⟩ ∈ jtbl := jtbl_in 687 (by decide +kernel) (by decide +kernel)
theorem w_688 : Cond.code ⟨"OutOrder$Work", "resolve", "(LOutOrder$Table;)V"⟩ prog_12_method_12_code 6 (Option.none : Option Jvm.ClassFile.FieldType) ∈ jtbl := jtbl_in 688 (by decide +kernel) (by decide +kernel)
theorem w_693 : Cond.methodLink "OutOrder" 252 ⟨"OutOrder$Work", "takeSingle", "(II)V"⟩ ∈ jtbl := jtbl_in 693 (by decide +kernel) (by decide +kernel)
theorem w_694 : Cond.instanceMethod ⟨"OutOrder$Work", "takeSingle", "(II)V"⟩ ∈ jtbl := jtbl_in 694 (by decide +kernel) (by decide +kernel)
theorem w_695 : Cond.selects "OutOrder$Work" ⟨"OutOrder$Work", "takeSingle", "(II)V"⟩ ⟨"OutOrder$Work", "takeSingle", "(II)V"⟩ ∈ jtbl := jtbl_in 695 (by decide +kernel) (by decide +kernel)
theorem w_696 : Cond.code ⟨"OutOrder$Work", "takeSingle", "(II)V"⟩ prog_12_method_11_code 4 (Option.none : Option Jvm.ClassFile.FieldType) ∈ jtbl := jtbl_in 696 (by decide +kernel) (by decide +kernel)
theorem w_701 : Cond.methodLink "OutOrder" 255 ⟨"OutOrder$Plan", "reckon", "(ILOutOrder$Row;LOutOrder$FullNet;)I"⟩ ∈ jtbl := jtbl_in 701 (by decide +kernel) (by decide +kernel)
theorem w_702 : Cond.instanceMethod ⟨"OutOrder$Plan", "reckon", "(ILOutOrder$Row;LOutOrder$FullNet;)I"⟩ ∈ jtbl := jtbl_in 702 (by decide +kernel) (by decide +kernel)
theorem w_703 : Cond.selects "OutOrder$Plan" ⟨"OutOrder$Plan", "reckon", "(ILOutOrder$Row;LOutOrder$FullNet;)I"⟩ ⟨"OutOrder$Plan", "reckon", "(ILOutOrder$Row;LOutOrder$FullNet;)I"⟩ ∈ jtbl := jtbl_in 703 (by decide +kernel) (by decide +kernel)
theorem w_704 : Cond.code ⟨"OutOrder$Plan", "reckon", "(ILOutOrder$Row;LOutOrder$FullNet;)I"⟩ prog_7_method_2_code 10 (Option.some Jvm.ClassFile.FieldType.int) ∈ jtbl := jtbl_in 704 (by decide +kernel) (by decide +kernel)
theorem w_705 : Cond.methodLink "OutOrder$Plan" 21 ⟨"OutOrder$Plan", "allowed", "(IILOutOrder$FullNet;)I"⟩ ∈ jtbl := jtbl_in 705 (by decide +kernel) (by decide +kernel)
theorem w_706 : Cond.static ⟨"OutOrder$Plan", "allowed", "(IILOutOrder$FullNet;)I"⟩ ∈ jtbl := jtbl_in 706 (by decide +kernel) (by decide +kernel)
theorem w_707 : Cond.code ⟨"OutOrder$Plan", "allowed", "(IILOutOrder$FullNet;)I"⟩ prog_7_method_3_code 5 (Option.some Jvm.ClassFile.FieldType.int) ∈ jtbl := jtbl_in 707 (by decide +kernel) (by decide +kernel)
theorem w_708 : Cond.methodLink "OutOrder$Plan" 25 ⟨"OutOrder$Plan", "highest", "(ILOutOrder$Row;LOutOrder$FullNet;)I"⟩ ∈ jtbl := jtbl_in 708 (by decide +kernel) (by decide +kernel)
theorem w_709 : Cond.static ⟨"OutOrder$Plan", "highest", "(ILOutOrder$Row;LOutOrder$FullNet;)I"⟩ ∈ jtbl := jtbl_in 709 (by decide +kernel) (by decide +kernel)
theorem w_710 : Cond.code ⟨"OutOrder$Plan", "highest", "(ILOutOrder$Row;LOutOrder$FullNet;)I"⟩ prog_7_method_4_code 7 (Option.some Jvm.ClassFile.FieldType.int) ∈ jtbl := jtbl_in 710 (by decide +kernel) (by decide +kernel)
theorem w_719 : Cond.methodLink "OutOrder" 267 ⟨"OutOrder$Table", "digest", "()I"⟩ ∈ jtbl := jtbl_in 719 (by decide +kernel) (by decide +kernel)
theorem w_720 : Cond.instanceMethod ⟨"OutOrder$Table", "digest", "()I"⟩ ∈ jtbl := jtbl_in 720 (by decide +kernel) (by decide +kernel)
theorem w_721 : Cond.selects "OutOrder$Table" ⟨"OutOrder$Table", "digest", "()I"⟩ ⟨"OutOrder$Table", "digest", "()I"⟩ ∈ jtbl := jtbl_in 721 (by decide +kernel) (by decide +kernel)
theorem w_722 : Cond.code ⟨"OutOrder$Table", "digest", "()I"⟩ prog_11_method_6_code 4 (Option.some Jvm.ClassFile.FieldType.int) ∈ jtbl := jtbl_in 722 (by decide +kernel) (by decide +kernel)
theorem w_729 : Cond.fieldLink "OutOrderModel" 7 "OutOrderModel" "n" "I" ∈ jtbl := jtbl_in 729 (by decide +kernel) (by decide +kernel)
theorem w_730 : Cond.fieldLink "OutOrderModel" 13 "OutOrderModel" "p" "I" ∈ jtbl := jtbl_in 730 (by decide +kernel) (by decide +kernel)
theorem w_731 : Cond.fieldLink "OutOrderModel" 16 "OutOrderModel" "numbers" "[I" ∈ jtbl := jtbl_in 731 (by decide +kernel) (by decide +kernel)
theorem w_732 : Cond.fieldLink "OutOrderModel" 20 "OutOrderModel" "held" "[Z" ∈ jtbl := jtbl_in 732 (by decide +kernel) (by decide +kernel)
theorem w_733 : Cond.fieldLink "OutOrderModel" 24 "OutOrderModel" "order" "[I" ∈ jtbl := jtbl_in 733 (by decide +kernel) (by decide +kernel)
theorem w_734 : Cond.fieldLink "OutOrderModel" 27 "OutOrderModel" "sides" "[I" ∈ jtbl := jtbl_in 734 (by decide +kernel) (by decide +kernel)
theorem w_735 : Cond.fieldLink "OutOrderModel" 30 "OutOrderModel" "refused" "[I" ∈ jtbl := jtbl_in 735 (by decide +kernel) (by decide +kernel)
theorem w_736 : Cond.fieldLink "OutOrderModel" 33 "OutOrderModel" "net" "[I" ∈ jtbl := jtbl_in 736 (by decide +kernel) (by decide +kernel)
theorem w_737 : Cond.fieldLink "OutOrderModel" 36 "OutOrderModel" "behind" "[I" ∈ jtbl := jtbl_in 737 (by decide +kernel) (by decide +kernel)
theorem w_738 : Cond.fieldLink "OutOrderModel" 39 "OutOrderModel" "fillPairs" "[I" ∈ jtbl := jtbl_in 738 (by decide +kernel) (by decide +kernel)
theorem w_739 : Cond.fieldLink "OutOrderModel" 103 "OutOrderModel" "fillMany" "I" ∈ jtbl := jtbl_in 739 (by decide +kernel) (by decide +kernel)
theorem w_740 : Cond.fieldLink "OutOrderModel" 42 "OutOrderModel" "place" "[I" ∈ jtbl := jtbl_in 740 (by decide +kernel) (by decide +kernel)
theorem w_741 : Cond.fieldLink "OutOrderModel" 45 "OutOrderModel" "leastOf" "[I" ∈ jtbl := jtbl_in 741 (by decide +kernel) (by decide +kernel)
theorem w_742 : Cond.fieldLink "OutOrderModel" 48 "OutOrderModel" "known" "I" ∈ jtbl := jtbl_in 742 (by decide +kernel) (by decide +kernel)
theorem w_743 : Cond.fieldLink "OutOrderModel" 51 "OutOrderModel" "gone" "[I" ∈ jtbl := jtbl_in 743 (by decide +kernel) (by decide +kernel)
theorem w_744 : Cond.fieldLink "OutOrderModel" 161 "OutOrderModel" "goneMany" "I" ∈ jtbl := jtbl_in 744 (by decide +kernel) (by decide +kernel)
theorem w_745 : Cond.fieldLink "OutOrderModel" 54 "OutOrderModel" "goingNet" "[I" ∈ jtbl := jtbl_in 745 (by decide +kernel) (by decide +kernel)
theorem w_746 : Cond.fieldLink "OutOrderModel" 57 "OutOrderModel" "now" "[I" ∈ jtbl := jtbl_in 746 (by decide +kernel) (by decide +kernel)
theorem w_747 : Cond.fieldLink "OutOrderModel" 176 "OutOrderModel" "worked" "I" ∈ jtbl := jtbl_in 747 (by decide +kernel) (by decide +kernel)
theorem w_748 : Cond.fieldLink "OutOrderModel" 60 "OutOrderModel" "stuck" "I" ∈ jtbl := jtbl_in 748 (by decide +kernel) (by decide +kernel)
theorem w_749 : Cond.fieldLink "OutOrderModel" 63 "OutOrderModel" "pivots" "[I" ∈ jtbl := jtbl_in 749 (by decide +kernel) (by decide +kernel)
theorem w_750 : Cond.fieldLink "OutOrderModel" 66 "OutOrderModel" "ones" "[I" ∈ jtbl := jtbl_in 750 (by decide +kernel) (by decide +kernel)
theorem w_751 : Cond.fieldLink "OutOrderModel" 69 "OutOrderModel" "x" "[I" ∈ jtbl := jtbl_in 751 (by decide +kernel) (by decide +kernel)
theorem w_752 : Cond.fieldLink "OutOrderModel" 72 "OutOrderModel" "rounds" "[I" ∈ jtbl := jtbl_in 752 (by decide +kernel) (by decide +kernel)
theorem w_807 : Cond.methodLink "OutOrderModel" 79 ⟨"OutOrderModel", "refuse", "(I)I"⟩ ∈ jtbl := jtbl_in 807 (by decide +kernel) (by decide +kernel)
theorem w_809 : Cond.instanceMethod ⟨"OutOrderModel", "refuse", "(I)I"⟩ ∈ jtbl := jtbl_in 809 (by decide +kernel) (by decide +kernel)
theorem w_810 : Cond.code ⟨"OutOrderModel", "refuse", "(I)I"⟩ prog_14_method_4_code 2 (Option.some Jvm.ClassFile.FieldType.int) ∈ jtbl := jtbl_in 810 (by decide +kernel) (by decide +kernel)
theorem w_811 : Cond.methodLink "OutOrderModel" 83 ⟨"OutOrderModel", "notWorked", "()V"⟩ ∈ jtbl := jtbl_in 811 (by decide +kernel) (by decide +kernel)
theorem w_813 : Cond.instanceMethod ⟨"OutOrderModel", "notWorked", "()V"⟩ ∈ jtbl := jtbl_in 813 (by decide +kernel) (by decide +kernel)
theorem w_814 : Cond.code ⟨"OutOrderModel", "notWorked", "()V"⟩ prog_14_method_47_code 1 (Option.none : Option Jvm.ClassFile.FieldType) ∈ jtbl := jtbl_in 814 (by decide +kernel) (by decide +kernel)
theorem w_815 : Cond.methodLink "OutOrderModel" 86 ⟨"OutOrderModel", "begin", "()I"⟩ ∈ jtbl := jtbl_in 815 (by decide +kernel) (by decide +kernel)
theorem w_816 : Cond.instanceMethod ⟨"OutOrderModel", "begin", "()I"⟩ ∈ jtbl := jtbl_in 816 (by decide +kernel) (by decide +kernel)
theorem w_817 : Cond.selects "OutOrderModel" ⟨"OutOrderModel", "begin", "()I"⟩ ⟨"OutOrderModel", "begin", "()I"⟩ ∈ jtbl := jtbl_in 817 (by decide +kernel) (by decide +kernel)
theorem w_818 : Cond.code ⟨"OutOrderModel", "begin", "()I"⟩ prog_14_method_39_code 2 (Option.some Jvm.ClassFile.FieldType.int) ∈ jtbl := jtbl_in 818 (by decide +kernel) (by decide +kernel)
theorem w_819 : Cond.methodLink "OutOrderModel" 100 ⟨"OutOrderModel", "beginNet", "()V"⟩ ∈ jtbl := jtbl_in 819 (by decide +kernel) (by decide +kernel)
theorem w_821 : Cond.instanceMethod ⟨"OutOrderModel", "beginNet", "()V"⟩ ∈ jtbl := jtbl_in 821 (by decide +kernel) (by decide +kernel)
theorem w_822 : Cond.code ⟨"OutOrderModel", "beginNet", "()V"⟩ prog_14_method_13_code 3 (Option.none : Option Jvm.ClassFile.FieldType) ∈ jtbl := jtbl_in 822 (by decide +kernel) (by decide +kernel)
theorem w_827 : Cond.methodLink "OutOrderModel" 90 ⟨"OutOrderModel", "isUnknown", "(I)Z"⟩ ∈ jtbl := jtbl_in 827 (by decide +kernel) (by decide +kernel)
theorem w_829 : Cond.instanceMethod ⟨"OutOrderModel", "isUnknown", "(I)Z"⟩ ∈ jtbl := jtbl_in 829 (by decide +kernel) (by decide +kernel)
theorem w_830 : Cond.code ⟨"OutOrderModel", "isUnknown", "(I)Z"⟩ prog_14_method_5_code 2 (Option.some Jvm.ClassFile.FieldType.boolean) ∈ jtbl := jtbl_in 830 (by decide +kernel) (by decide +kernel)
theorem w_831 : Cond.methodLink "OutOrderModel" 75 ⟨"OutOrderModel", "in", "(III)Z"⟩ ∈ jtbl := jtbl_in 831 (by decide +kernel) (by decide +kernel)
theorem w_832 : Cond.static ⟨"OutOrderModel", "in", "(III)Z"⟩ ∈ jtbl := jtbl_in 832 (by decide +kernel) (by decide +kernel)
theorem w_833 : Cond.code ⟨"OutOrderModel", "in", "(III)Z"⟩ prog_14_method_3_code 3 (Option.some Jvm.ClassFile.FieldType.boolean) ∈ jtbl := jtbl_in 833 (by decide +kernel) (by decide +kernel)
theorem w_834 : Cond.methodLink "OutOrderModel" 94 ⟨"OutOrderModel", "modulo", "(J)I"⟩ ∈ jtbl := jtbl_in 834 (by decide +kernel) (by decide +kernel)
theorem w_836 : Cond.instanceMethod ⟨"OutOrderModel", "modulo", "(J)I"⟩ ∈ jtbl := jtbl_in 836 (by decide +kernel) (by decide +kernel)
theorem w_837 : Cond.code ⟨"OutOrderModel", "modulo", "(J)I"⟩ prog_14_method_7_code 5 (Option.some Jvm.ClassFile.FieldType.int) ∈ jtbl := jtbl_in 837 (by decide +kernel) (by decide +kernel)
theorem w_850 : Cond.methodLink "OutOrderModel" 129 ⟨"OutOrderModel", "someHeld", "()Z"⟩ ∈ jtbl := jtbl_in 850 (by decide +kernel) (by decide +kernel)
theorem w_852 : Cond.instanceMethod ⟨"OutOrderModel", "someHeld", "()Z"⟩ ∈ jtbl := jtbl_in 852 (by decide +kernel) (by decide +kernel)
theorem w_853 : Cond.code ⟨"OutOrderModel", "someHeld", "()Z"⟩ prog_14_method_12_code 3 (Option.some Jvm.ClassFile.FieldType.boolean) ∈ jtbl := jtbl_in 853 (by decide +kernel) (by decide +kernel)
theorem w_854 : Cond.methodLink "OutOrderModel" 133 ⟨"OutOrderModel", "byNumbers", "()V"⟩ ∈ jtbl := jtbl_in 854 (by decide +kernel) (by decide +kernel)
theorem w_856 : Cond.instanceMethod ⟨"OutOrderModel", "byNumbers", "()V"⟩ ∈ jtbl := jtbl_in 856 (by decide +kernel) (by decide +kernel)
theorem w_857 : Cond.code ⟨"OutOrderModel", "byNumbers", "()V"⟩ prog_14_method_17_code 4 (Option.none : Option Jvm.ClassFile.FieldType) ∈ jtbl := jtbl_in 857 (by decide +kernel) (by decide +kernel)
theorem w_858 : Cond.methodLink "OutOrderModel" 136 ⟨"OutOrderModel", "byFewest", "(Z)V"⟩ ∈ jtbl := jtbl_in 858 (by decide +kernel) (by decide +kernel)
theorem w_860 : Cond.instanceMethod ⟨"OutOrderModel", "byFewest", "(Z)V"⟩ ∈ jtbl := jtbl_in 860 (by decide +kernel) (by decide +kernel)
theorem w_861 : Cond.code ⟨"OutOrderModel", "byFewest", "(Z)V"⟩ prog_14_method_18_code 10 (Option.none : Option Jvm.ClassFile.FieldType) ∈ jtbl := jtbl_in 861 (by decide +kernel) (by decide +kernel)
theorem w_862 : Cond.methodLink "OutOrderModel" 110 ⟨"OutOrderModel", "fillsOf", "([II)I"⟩ ∈ jtbl := jtbl_in 862 (by decide +kernel) (by decide +kernel)
theorem w_863 : Cond.static ⟨"OutOrderModel", "fillsOf", "([II)I"⟩ ∈ jtbl := jtbl_in 863 (by decide +kernel) (by decide +kernel)
theorem w_864 : Cond.code ⟨"OutOrderModel", "fillsOf", "([II)I"⟩ prog_14_method_14_code 4 (Option.some Jvm.ClassFile.FieldType.int) ∈ jtbl := jtbl_in 864 (by decide +kernel) (by decide +kernel)
theorem w_865 : Cond.methodLink "OutOrderModel" 98 ⟨"OutOrderModel", "ones", "(I)I"⟩ ∈ jtbl := jtbl_in 865 (by decide +kernel) (by decide +kernel)
theorem w_866 : Cond.static ⟨"OutOrderModel", "ones", "(I)I"⟩ ∈ jtbl := jtbl_in 866 (by decide +kernel) (by decide +kernel)
theorem w_867 : Cond.code ⟨"OutOrderModel", "ones", "(I)I"⟩ prog_14_method_6_code 3 (Option.some Jvm.ClassFile.FieldType.int) ∈ jtbl := jtbl_in 867 (by decide +kernel) (by decide +kernel)
theorem w_868 : Cond.methodLink "OutOrderModel" 106 ⟨"OutOrderModel", "joinAll", "([II)V"⟩ ∈ jtbl := jtbl_in 868 (by decide +kernel) (by decide +kernel)
theorem w_869 : Cond.static ⟨"OutOrderModel", "joinAll", "([II)V"⟩ ∈ jtbl := jtbl_in 869 (by decide +kernel) (by decide +kernel)
theorem w_870 : Cond.code ⟨"OutOrderModel", "joinAll", "([II)V"⟩ prog_14_method_15_code 3 (Option.none : Option Jvm.ClassFile.FieldType) ∈ jtbl := jtbl_in 870 (by decide +kernel) (by decide +kernel)
theorem w_871 : Cond.methodLink "OutOrderModel" 139 ⟨"OutOrderModel", "bySearch", "()V"⟩ ∈ jtbl := jtbl_in 871 (by decide +kernel) (by decide +kernel)
theorem w_873 : Cond.instanceMethod ⟨"OutOrderModel", "bySearch", "()V"⟩ ∈ jtbl := jtbl_in 873 (by decide +kernel) (by decide +kernel)
theorem w_874 : Cond.code ⟨"OutOrderModel", "bySearch", "()V"⟩ prog_14_method_19_code 6 (Option.none : Option Jvm.ClassFile.FieldType) ∈ jtbl := jtbl_in 874 (by decide +kernel) (by decide +kernel)
theorem w_875 : Cond.methodLink "OutOrderModel" 142 ⟨"OutOrderModel", "byLeast", "(Z)V"⟩ ∈ jtbl := jtbl_in 875 (by decide +kernel) (by decide +kernel)
theorem w_877 : Cond.instanceMethod ⟨"OutOrderModel", "byLeast", "(Z)V"⟩ ∈ jtbl := jtbl_in 877 (by decide +kernel) (by decide +kernel)
theorem w_878 : Cond.code ⟨"OutOrderModel", "byLeast", "(Z)V"⟩ prog_14_method_24_code 8 (Option.none : Option Jvm.ClassFile.FieldType) ∈ jtbl := jtbl_in 878 (by decide +kernel) (by decide +kernel)
theorem w_879 : Cond.methodLink "OutOrderModel" 125 ⟨"OutOrderModel", "findLeast", "(Z)V"⟩ ∈ jtbl := jtbl_in 879 (by decide +kernel) (by decide +kernel)
theorem w_881 : Cond.instanceMethod ⟨"OutOrderModel", "findLeast", "(Z)V"⟩ ∈ jtbl := jtbl_in 881 (by decide +kernel) (by decide +kernel)
theorem w_882 : Cond.code ⟨"OutOrderModel", "findLeast", "(Z)V"⟩ prog_14_method_23_code 7 (Option.none : Option Jvm.ClassFile.FieldType) ∈ jtbl := jtbl_in 882 (by decide +kernel) (by decide +kernel)
theorem w_883 : Cond.methodLink "OutOrderModel" 118 ⟨"OutOrderModel", "costOf", "(IIZ)I"⟩ ∈ jtbl := jtbl_in 883 (by decide +kernel) (by decide +kernel)
theorem w_885 : Cond.instanceMethod ⟨"OutOrderModel", "costOf", "(IIZ)I"⟩ ∈ jtbl := jtbl_in 885 (by decide +kernel) (by decide +kernel)
theorem w_886 : Cond.code ⟨"OutOrderModel", "costOf", "(IIZ)I"⟩ prog_14_method_21_code 7 (Option.some Jvm.ClassFile.FieldType.int) ∈ jtbl := jtbl_in 886 (by decide +kernel) (by decide +kernel)
theorem w_887 : Cond.methodLink "OutOrderModel" 114 ⟨"OutOrderModel", "around", "(II)I"⟩ ∈ jtbl := jtbl_in 887 (by decide +kernel) (by decide +kernel)
theorem w_889 : Cond.instanceMethod ⟨"OutOrderModel", "around", "(II)I"⟩ ∈ jtbl := jtbl_in 889 (by decide +kernel) (by decide +kernel)
theorem w_890 : Cond.code ⟨"OutOrderModel", "around", "(II)I"⟩ prog_14_method_20_code 8 (Option.some Jvm.ClassFile.FieldType.int) ∈ jtbl := jtbl_in 890 (by decide +kernel) (by decide +kernel)
theorem w_891 : Cond.methodLink "OutOrderModel" 122 ⟨"OutOrderModel", "joined", "(IIZ)I"⟩ ∈ jtbl := jtbl_in 891 (by decide +kernel) (by decide +kernel)
theorem w_893 : Cond.instanceMethod ⟨"OutOrderModel", "joined", "(IIZ)I"⟩ ∈ jtbl := jtbl_in 893 (by decide +kernel) (by decide +kernel)
theorem w_894 : Cond.code ⟨"OutOrderModel", "joined", "(IIZ)I"⟩ prog_14_method_22_code 4 (Option.some Jvm.ClassFile.FieldType.int) ∈ jtbl := jtbl_in 894 (by decide +kernel) (by decide +kernel)
theorem w_895 : Cond.methodLink "OutOrderModel" 145 ⟨"OutOrderModel", "fills", "()I"⟩ ∈ jtbl := jtbl_in 895 (by decide +kernel) (by decide +kernel)
theorem w_896 : Cond.instanceMethod ⟨"OutOrderModel", "fills", "()I"⟩ ∈ jtbl := jtbl_in 896 (by decide +kernel) (by decide +kernel)
theorem w_897 : Cond.selects "OutOrderModel" ⟨"OutOrderModel", "fills", "()I"⟩ ⟨"OutOrderModel", "fills", "()I"⟩ ∈ jtbl := jtbl_in 897 (by decide +kernel) (by decide +kernel)
theorem w_898 : Cond.code ⟨"OutOrderModel", "fills", "()I"⟩ prog_14_method_28_code 1 (Option.some Jvm.ClassFile.FieldType.int) ∈ jtbl := jtbl_in 898 (by decide +kernel) (by decide +kernel)
theorem w_899 : Cond.methodLink "OutOrderModel" 148 ⟨"OutOrderModel", "goThrough", "()V"⟩ ∈ jtbl := jtbl_in 899 (by decide +kernel) (by decide +kernel)
theorem w_901 : Cond.instanceMethod ⟨"OutOrderModel", "goThrough", "()V"⟩ ∈ jtbl := jtbl_in 901 (by decide +kernel) (by decide +kernel)
theorem w_902 : Cond.code ⟨"OutOrderModel", "goThrough", "()V"⟩ prog_14_method_16_code 7 (Option.none : Option Jvm.ClassFile.FieldType) ∈ jtbl := jtbl_in 902 (by decide +kernel) (by decide +kernel)
theorem w_920 : Cond.methodLink "OutOrderModel" 151 ⟨"OutOrderModel", "parent", "(I)I"⟩ ∈ jtbl := jtbl_in 920 (by decide +kernel) (by decide +kernel)
theorem w_922 : Cond.instanceMethod ⟨"OutOrderModel", "parent", "(I)I"⟩ ∈ jtbl := jtbl_in 922 (by decide +kernel) (by decide +kernel)
theorem w_923 : Cond.code ⟨"OutOrderModel", "parent", "(I)I"⟩ prog_14_method_30_code 4 (Option.some Jvm.ClassFile.FieldType.int) ∈ jtbl := jtbl_in 923 (by decide +kernel) (by decide +kernel)
theorem w_924 : Cond.methodLink "OutOrderModel" 154 ⟨"OutOrderModel", "height", "(I)I"⟩ ∈ jtbl := jtbl_in 924 (by decide +kernel) (by decide +kernel)
theorem w_926 : Cond.instanceMethod ⟨"OutOrderModel", "height", "(I)I"⟩ ∈ jtbl := jtbl_in 926 (by decide +kernel) (by decide +kernel)
theorem w_927 : Cond.code ⟨"OutOrderModel", "height", "(I)I"⟩ prog_14_method_31_code 4 (Option.some Jvm.ClassFile.FieldType.int) ∈ jtbl := jtbl_in 927 (by decide +kernel) (by decide +kernel)
theorem w_944 : Cond.methodLink "OutOrderModel" 157 ⟨"OutOrderModel", "steps", "(III)I"⟩ ∈ jtbl := jtbl_in 944 (by decide +kernel) (by decide +kernel)
theorem w_946 : Cond.instanceMethod ⟨"OutOrderModel", "steps", "(III)I"⟩ ∈ jtbl := jtbl_in 946 (by decide +kernel) (by decide +kernel)
theorem w_947 : Cond.code ⟨"OutOrderModel", "steps", "(III)I"⟩ prog_14_method_36_code 9 (Option.some Jvm.ClassFile.FieldType.int) ∈ jtbl := jtbl_in 947 (by decide +kernel) (by decide +kernel)
theorem w_957 : Cond.methodLink "OutOrderModel" 167 ⟨"OutOrderModel", "goingLacks", "(I)I"⟩ ∈ jtbl := jtbl_in 957 (by decide +kernel) (by decide +kernel)
theorem w_959 : Cond.instanceMethod ⟨"OutOrderModel", "goingLacks", "(I)I"⟩ ∈ jtbl := jtbl_in 959 (by decide +kernel) (by decide +kernel)
theorem w_960 : Cond.code ⟨"OutOrderModel", "goingLacks", "(I)I"⟩ prog_14_method_41_code 2 (Option.some Jvm.ClassFile.FieldType.int) ∈ jtbl := jtbl_in 960 (by decide +kernel) (by decide +kernel)
theorem w_961 : Cond.methodLink "OutOrderModel" 164 ⟨"OutOrderModel", "goneBits", "()I"⟩ ∈ jtbl := jtbl_in 961 (by decide +kernel) (by decide +kernel)
theorem w_963 : Cond.instanceMethod ⟨"OutOrderModel", "goneBits", "()I"⟩ ∈ jtbl := jtbl_in 963 (by decide +kernel) (by decide +kernel)
theorem w_964 : Cond.code ⟨"OutOrderModel", "goneBits", "()I"⟩ prog_14_method_40_code 3 (Option.some Jvm.ClassFile.FieldType.int) ∈ jtbl := jtbl_in 964 (by decide +kernel) (by decide +kernel)
theorem w_965 : Cond.methodLink "OutOrderModel" 170 ⟨"OutOrderModel", "goingAround", "(I)I"⟩ ∈ jtbl := jtbl_in 965 (by decide +kernel) (by decide +kernel)
theorem w_967 : Cond.instanceMethod ⟨"OutOrderModel", "goingAround", "(I)I"⟩ ∈ jtbl := jtbl_in 967 (by decide +kernel) (by decide +kernel)
theorem w_968 : Cond.code ⟨"OutOrderModel", "goingAround", "(I)I"⟩ prog_14_method_42_code 2 (Option.some Jvm.ClassFile.FieldType.int) ∈ jtbl := jtbl_in 968 (by decide +kernel) (by decide +kernel)
theorem w_973 : Cond.methodLink "OutOrderModel" 173 ⟨"OutOrderModel", "kindOf", "(I)I"⟩ ∈ jtbl := jtbl_in 973 (by decide +kernel) (by decide +kernel)
theorem w_975 : Cond.instanceMethod ⟨"OutOrderModel", "kindOf", "(I)I"⟩ ∈ jtbl := jtbl_in 975 (by decide +kernel) (by decide +kernel)
theorem w_976 : Cond.code ⟨"OutOrderModel", "kindOf", "(I)I"⟩ prog_14_method_44_code 5 (Option.some Jvm.ClassFile.FieldType.int) ∈ jtbl := jtbl_in 976 (by decide +kernel) (by decide +kernel)
theorem w_985 : Cond.methodLink "OutOrderModel" 179 ⟨"OutOrderModel", "rest", "(III)I"⟩ ∈ jtbl := jtbl_in 985 (by decide +kernel) (by decide +kernel)
theorem w_987 : Cond.instanceMethod ⟨"OutOrderModel", "rest", "(III)I"⟩ ∈ jtbl := jtbl_in 987 (by decide +kernel) (by decide +kernel)
theorem w_988 : Cond.code ⟨"OutOrderModel", "rest", "(III)I"⟩ prog_14_method_49_code 8 (Option.some Jvm.ClassFile.FieldType.int) ∈ jtbl := jtbl_in 988 (by decide +kernel) (by decide +kernel)
theorem w_989 : Cond.methodLink "OutOrderModel" 182 ⟨"OutOrderModel", "inverse", "(I)I"⟩ ∈ jtbl := jtbl_in 989 (by decide +kernel) (by decide +kernel)
theorem w_991 : Cond.instanceMethod ⟨"OutOrderModel", "inverse", "(I)I"⟩ ∈ jtbl := jtbl_in 991 (by decide +kernel) (by decide +kernel)
theorem w_992 : Cond.code ⟨"OutOrderModel", "inverse", "(I)I"⟩ prog_14_method_48_code 7 (Option.some Jvm.ClassFile.FieldType.int) ∈ jtbl := jtbl_in 992 (by decide +kernel) (by decide +kernel)
theorem w_997 : Cond.methodLink "OutOrderModel" 185 ⟨"OutOrderModel", "placeOf", "(I)I"⟩ ∈ jtbl := jtbl_in 997 (by decide +kernel) (by decide +kernel)
theorem w_999 : Cond.instanceMethod ⟨"OutOrderModel", "placeOf", "(I)I"⟩ ∈ jtbl := jtbl_in 999 (by decide +kernel) (by decide +kernel)
theorem w_1000 : Cond.code ⟨"OutOrderModel", "placeOf", "(I)I"⟩ prog_14_method_51_code 3 (Option.some Jvm.ClassFile.FieldType.int) ∈ jtbl := jtbl_in 1000 (by decide +kernel) (by decide +kernel)
theorem w_1017 : Cond.methodLink "OutOrderModel" 188 ⟨"OutOrderModel", "isSolved", "()Z"⟩ ∈ jtbl := jtbl_in 1017 (by decide +kernel) (by decide +kernel)
theorem w_1019 : Cond.instanceMethod ⟨"OutOrderModel", "isSolved", "()Z"⟩ ∈ jtbl := jtbl_in 1019 (by decide +kernel) (by decide +kernel)
theorem w_1020 : Cond.code ⟨"OutOrderModel", "isSolved", "()Z"⟩ prog_14_method_56_code 3 (Option.some Jvm.ClassFile.FieldType.boolean) ∈ jtbl := jtbl_in 1020 (by decide +kernel) (by decide +kernel)
theorem w_1021 : Cond.methodLink "OutOrderModel" 191 ⟨"OutOrderModel", "solveAll", "()V"⟩ ∈ jtbl := jtbl_in 1021 (by decide +kernel) (by decide +kernel)
theorem w_1023 : Cond.instanceMethod ⟨"OutOrderModel", "solveAll", "()V"⟩ ∈ jtbl := jtbl_in 1023 (by decide +kernel) (by decide +kernel)
theorem w_1024 : Cond.code ⟨"OutOrderModel", "solveAll", "()V"⟩ prog_14_method_57_code 3 (Option.none : Option Jvm.ClassFile.FieldType) ∈ jtbl := jtbl_in 1024 (by decide +kernel) (by decide +kernel)
theorem w_1033 : Cond.methodLink "OutOrderModel" 198 ⟨"OutOrderModel", "planFor", "(I)I"⟩ ∈ jtbl := jtbl_in 1033 (by decide +kernel) (by decide +kernel)
theorem w_1035 : Cond.instanceMethod ⟨"OutOrderModel", "planFor", "(I)I"⟩ ∈ jtbl := jtbl_in 1035 (by decide +kernel) (by decide +kernel)
theorem w_1036 : Cond.code ⟨"OutOrderModel", "planFor", "(I)I"⟩ prog_14_method_60_code 8 (Option.some Jvm.ClassFile.FieldType.int) ∈ jtbl := jtbl_in 1036 (by decide +kernel) (by decide +kernel)
theorem w_1037 : Cond.methodLink "OutOrderModel" 194 ⟨"OutOrderModel", "mayBeDone", "(II)Z"⟩ ∈ jtbl := jtbl_in 1037 (by decide +kernel) (by decide +kernel)
theorem w_1039 : Cond.instanceMethod ⟨"OutOrderModel", "mayBeDone", "(II)Z"⟩ ∈ jtbl := jtbl_in 1039 (by decide +kernel) (by decide +kernel)
theorem w_1040 : Cond.code ⟨"OutOrderModel", "mayBeDone", "(II)Z"⟩ prog_14_method_61_code 5 (Option.some Jvm.ClassFile.FieldType.boolean) ∈ jtbl := jtbl_in 1040 (by decide +kernel) (by decide +kernel)
theorem ws_0 : Cond.selects "OutOrder" ⟨"OutOrder", "startAnew", "(II)V"⟩ ⟨"OutOrder", "startAnew", "(II)V"⟩ ∈ jtbl := jtbl_sel 0 (by decide +kernel) (by decide +kernel)
theorem ws_1 : Cond.selects "OutOrder" ⟨"OutOrder", "numbersChanged", "()V"⟩ ⟨"OutOrder", "numbersChanged", "()V"⟩ ∈ jtbl := jtbl_sel 1 (by decide +kernel) (by decide +kernel)
theorem ws_2 : Cond.selects "OutOrder" ⟨"OutOrder", "orderChanged", "()V"⟩ ⟨"OutOrder", "orderChanged", "()V"⟩ ∈ jtbl := jtbl_sel 2 (by decide +kernel) (by decide +kernel)
theorem ws_3 : Cond.selects "OutOrder" ⟨"OutOrder", "refuse", "(I)I"⟩ ⟨"OutOrder", "refuse", "(I)I"⟩ ∈ jtbl := jtbl_sel 3 (by decide +kernel) (by decide +kernel)
theorem ws_4 : Cond.selects "OutOrder" ⟨"OutOrder", "isNobody", "(I)Z"⟩ ⟨"OutOrder", "isNobody", "(I)Z"⟩ ∈ jtbl := jtbl_sel 4 (by decide +kernel) (by decide +kernel)
theorem ws_5 : Cond.selects "OutOrder" ⟨"OutOrder", "arrange", "(I)V"⟩ ⟨"OutOrder", "arrange", "(I)V"⟩ ∈ jtbl := jtbl_sel 5 (by decide +kernel) (by decide +kernel)
theorem ws_6 : Cond.selects "OutOrder" ⟨"OutOrder", "knownMinima", "()LOutOrder$Least;"⟩ ⟨"OutOrder", "knownMinima", "()LOutOrder$Least;"⟩ ∈ jtbl := jtbl_sel 6 (by decide +kernel) (by decide +kernel)
theorem ws_7 : Cond.selects "OutOrder$Least" ⟨"OutOrder$Least", "makeNet", "(III)V"⟩ ⟨"OutOrder$Least", "makeNet", "(III)V"⟩ ∈ jtbl := jtbl_sel 7 (by decide +kernel) (by decide +kernel)
theorem ws_8 : Cond.selects "OutOrder$Least" ⟨"OutOrder$Least", "weigh", "(II)V"⟩ ⟨"OutOrder$Least", "weigh", "(II)V"⟩ ∈ jtbl := jtbl_sel 8 (by decide +kernel) (by decide +kernel)
theorem ws_9 : Cond.selects "OutOrder$Least" ⟨"OutOrder$Least", "firstGood", "(IZ)I"⟩ ⟨"OutOrder$Least", "firstGood", "(IZ)I"⟩ ∈ jtbl := jtbl_sel 9 (by decide +kernel) (by decide +kernel)
theorem ws_10 : Cond.selects "OutOrder$Least" ⟨"OutOrder$Least", "isGood", "(IIZ)Z"⟩ ⟨"OutOrder$Least", "isGood", "(IIZ)Z"⟩ ∈ jtbl := jtbl_sel 10 (by decide +kernel) (by decide +kernel)
theorem ws_11 : Cond.selects "OutOrder$Rules" ⟨"OutOrder$Rules", "cheapest", "(II)I"⟩ ⟨"OutOrder$Rules", "cheapest", "(II)I"⟩ ∈ jtbl := jtbl_sel 11 (by decide +kernel) (by decide +kernel)
theorem ws_12 : Cond.selects "OutOrder$Rules" ⟨"OutOrder$Rules", "cost", "(II)I"⟩ ⟨"OutOrder$Rules", "cost", "(II)I"⟩ ∈ jtbl := jtbl_sel 12 (by decide +kernel) (by decide +kernel)
theorem ws_13 : Cond.selects "OutOrder" ⟨"OutOrder", "fullNet", "()LOutOrder$FullNet;"⟩ ⟨"OutOrder", "fullNet", "()LOutOrder$FullNet;"⟩ ∈ jtbl := jtbl_sel 13 (by decide +kernel) (by decide +kernel)
theorem ws_14 : Cond.selects "OutOrder$FullNet" ⟨"OutOrder$FullNet", "listFills", "(I)V"⟩ ⟨"OutOrder$FullNet", "listFills", "(I)V"⟩ ∈ jtbl := jtbl_sel 14 (by decide +kernel) (by decide +kernel)
theorem ws_15 : Cond.selects "OutOrder$FullNet" ⟨"OutOrder$FullNet", "makeTree", "(LOutOrder$Row;)V"⟩ ⟨"OutOrder$FullNet", "makeTree", "(LOutOrder$Row;)V"⟩ ∈ jtbl := jtbl_sel 15 (by decide +kernel) (by decide +kernel)
theorem ws_16 : Cond.selects "OutOrder$FullNet" ⟨"OutOrder$FullNet", "makeGroups", "(I)V"⟩ ⟨"OutOrder$FullNet", "makeGroups", "(I)V"⟩ ∈ jtbl := jtbl_sel 16 (by decide +kernel) (by decide +kernel)
theorem ws_17 : Cond.selects "OutOrder$FullNet" ⟨"OutOrder$FullNet", "isWithinAnother", "(II)Z"⟩ ⟨"OutOrder$FullNet", "isWithinAnother", "(II)Z"⟩ ∈ jtbl := jtbl_sel 17 (by decide +kernel) (by decide +kernel)
theorem ws_18 : Cond.selects "OutOrder$FullNet" ⟨"OutOrder$FullNet", "insertGroup", "(I)V"⟩ ⟨"OutOrder$FullNet", "insertGroup", "(I)V"⟩ ∈ jtbl := jtbl_sel 18 (by decide +kernel) (by decide +kernel)
theorem ws_19 : Cond.selects "OutOrder$Going" ⟨"OutOrder$Going", "isTwin", "(I)Z"⟩ ⟨"OutOrder$Going", "isTwin", "(I)Z"⟩ ∈ jtbl := jtbl_sel 19 (by decide +kernel) (by decide +kernel)
theorem ws_20 : Cond.selects "OutOrder$Work" ⟨"OutOrder$Work", "takeNumbers", "(LOutOrder$Table;LOutOrder$Row;)V"⟩ ⟨"OutOrder$Work", "takeNumbers", "(LOutOrder$Table;LOutOrder$Row;)V"⟩ ∈ jtbl := jtbl_sel 20 (by decide +kernel) (by decide +kernel)
theorem ws_21 : Cond.selects "OutOrder$Work" ⟨"OutOrder$Work", "hasRest", "(II)Z"⟩ ⟨"OutOrder$Work", "hasRest", "(II)Z"⟩ ∈ jtbl := jtbl_sel 21 (by decide +kernel) (by decide +kernel)
theorem ws_22 : Cond.selects "OutOrder$Work" ⟨"OutOrder$Work", "eliminate", "(IILOutOrder$Modulus;)V"⟩ ⟨"OutOrder$Work", "eliminate", "(IILOutOrder$Modulus;)V"⟩ ∈ jtbl := jtbl_sel 22 (by decide +kernel) (by decide +kernel)
theorem ws_23 : Cond.selects "OutOrderModel" ⟨"OutOrderModel", "refuse", "(I)I"⟩ ⟨"OutOrderModel", "refuse", "(I)I"⟩ ∈ jtbl := jtbl_sel 23 (by decide +kernel) (by decide +kernel)
theorem ws_24 : Cond.selects "OutOrderModel" ⟨"OutOrderModel", "notWorked", "()V"⟩ ⟨"OutOrderModel", "notWorked", "()V"⟩ ∈ jtbl := jtbl_sel 24 (by decide +kernel) (by decide +kernel)
theorem ws_25 : Cond.selects "OutOrderModel" ⟨"OutOrderModel", "beginNet", "()V"⟩ ⟨"OutOrderModel", "beginNet", "()V"⟩ ∈ jtbl := jtbl_sel 25 (by decide +kernel) (by decide +kernel)
theorem ws_26 : Cond.selects "OutOrderModel" ⟨"OutOrderModel", "isUnknown", "(I)Z"⟩ ⟨"OutOrderModel", "isUnknown", "(I)Z"⟩ ∈ jtbl := jtbl_sel 26 (by decide +kernel) (by decide +kernel)
theorem ws_27 : Cond.selects "OutOrderModel" ⟨"OutOrderModel", "modulo", "(J)I"⟩ ⟨"OutOrderModel", "modulo", "(J)I"⟩ ∈ jtbl := jtbl_sel 27 (by decide +kernel) (by decide +kernel)
theorem ws_28 : Cond.selects "OutOrderModel" ⟨"OutOrderModel", "someHeld", "()Z"⟩ ⟨"OutOrderModel", "someHeld", "()Z"⟩ ∈ jtbl := jtbl_sel 28 (by decide +kernel) (by decide +kernel)
theorem ws_29 : Cond.selects "OutOrderModel" ⟨"OutOrderModel", "byNumbers", "()V"⟩ ⟨"OutOrderModel", "byNumbers", "()V"⟩ ∈ jtbl := jtbl_sel 29 (by decide +kernel) (by decide +kernel)
theorem ws_30 : Cond.selects "OutOrderModel" ⟨"OutOrderModel", "byFewest", "(Z)V"⟩ ⟨"OutOrderModel", "byFewest", "(Z)V"⟩ ∈ jtbl := jtbl_sel 30 (by decide +kernel) (by decide +kernel)
theorem ws_31 : Cond.selects "OutOrderModel" ⟨"OutOrderModel", "bySearch", "()V"⟩ ⟨"OutOrderModel", "bySearch", "()V"⟩ ∈ jtbl := jtbl_sel 31 (by decide +kernel) (by decide +kernel)
theorem ws_32 : Cond.selects "OutOrderModel" ⟨"OutOrderModel", "byLeast", "(Z)V"⟩ ⟨"OutOrderModel", "byLeast", "(Z)V"⟩ ∈ jtbl := jtbl_sel 32 (by decide +kernel) (by decide +kernel)
theorem ws_33 : Cond.selects "OutOrderModel" ⟨"OutOrderModel", "findLeast", "(Z)V"⟩ ⟨"OutOrderModel", "findLeast", "(Z)V"⟩ ∈ jtbl := jtbl_sel 33 (by decide +kernel) (by decide +kernel)
theorem ws_34 : Cond.selects "OutOrderModel" ⟨"OutOrderModel", "costOf", "(IIZ)I"⟩ ⟨"OutOrderModel", "costOf", "(IIZ)I"⟩ ∈ jtbl := jtbl_sel 34 (by decide +kernel) (by decide +kernel)
theorem ws_35 : Cond.selects "OutOrderModel" ⟨"OutOrderModel", "around", "(II)I"⟩ ⟨"OutOrderModel", "around", "(II)I"⟩ ∈ jtbl := jtbl_sel 35 (by decide +kernel) (by decide +kernel)
theorem ws_36 : Cond.selects "OutOrderModel" ⟨"OutOrderModel", "joined", "(IIZ)I"⟩ ⟨"OutOrderModel", "joined", "(IIZ)I"⟩ ∈ jtbl := jtbl_sel 36 (by decide +kernel) (by decide +kernel)
theorem ws_37 : Cond.selects "OutOrderModel" ⟨"OutOrderModel", "goThrough", "()V"⟩ ⟨"OutOrderModel", "goThrough", "()V"⟩ ∈ jtbl := jtbl_sel 37 (by decide +kernel) (by decide +kernel)
theorem ws_38 : Cond.selects "OutOrderModel" ⟨"OutOrderModel", "parent", "(I)I"⟩ ⟨"OutOrderModel", "parent", "(I)I"⟩ ∈ jtbl := jtbl_sel 38 (by decide +kernel) (by decide +kernel)
theorem ws_39 : Cond.selects "OutOrderModel" ⟨"OutOrderModel", "height", "(I)I"⟩ ⟨"OutOrderModel", "height", "(I)I"⟩ ∈ jtbl := jtbl_sel 39 (by decide +kernel) (by decide +kernel)
theorem ws_40 : Cond.selects "OutOrderModel" ⟨"OutOrderModel", "steps", "(III)I"⟩ ⟨"OutOrderModel", "steps", "(III)I"⟩ ∈ jtbl := jtbl_sel 40 (by decide +kernel) (by decide +kernel)
theorem ws_41 : Cond.selects "OutOrderModel" ⟨"OutOrderModel", "goingLacks", "(I)I"⟩ ⟨"OutOrderModel", "goingLacks", "(I)I"⟩ ∈ jtbl := jtbl_sel 41 (by decide +kernel) (by decide +kernel)
theorem ws_42 : Cond.selects "OutOrderModel" ⟨"OutOrderModel", "goneBits", "()I"⟩ ⟨"OutOrderModel", "goneBits", "()I"⟩ ∈ jtbl := jtbl_sel 42 (by decide +kernel) (by decide +kernel)
theorem ws_43 : Cond.selects "OutOrderModel" ⟨"OutOrderModel", "goingAround", "(I)I"⟩ ⟨"OutOrderModel", "goingAround", "(I)I"⟩ ∈ jtbl := jtbl_sel 43 (by decide +kernel) (by decide +kernel)
theorem ws_44 : Cond.selects "OutOrderModel" ⟨"OutOrderModel", "kindOf", "(I)I"⟩ ⟨"OutOrderModel", "kindOf", "(I)I"⟩ ∈ jtbl := jtbl_sel 44 (by decide +kernel) (by decide +kernel)
theorem ws_45 : Cond.selects "OutOrderModel" ⟨"OutOrderModel", "rest", "(III)I"⟩ ⟨"OutOrderModel", "rest", "(III)I"⟩ ∈ jtbl := jtbl_sel 45 (by decide +kernel) (by decide +kernel)
theorem ws_46 : Cond.selects "OutOrderModel" ⟨"OutOrderModel", "inverse", "(I)I"⟩ ⟨"OutOrderModel", "inverse", "(I)I"⟩ ∈ jtbl := jtbl_sel 46 (by decide +kernel) (by decide +kernel)
theorem ws_47 : Cond.selects "OutOrderModel" ⟨"OutOrderModel", "placeOf", "(I)I"⟩ ⟨"OutOrderModel", "placeOf", "(I)I"⟩ ∈ jtbl := jtbl_sel 47 (by decide +kernel) (by decide +kernel)
theorem ws_48 : Cond.selects "OutOrderModel" ⟨"OutOrderModel", "isSolved", "()Z"⟩ ⟨"OutOrderModel", "isSolved", "()Z"⟩ ∈ jtbl := jtbl_sel 48 (by decide +kernel) (by decide +kernel)
theorem ws_49 : Cond.selects "OutOrderModel" ⟨"OutOrderModel", "solveAll", "()V"⟩ ⟨"OutOrderModel", "solveAll", "()V"⟩ ∈ jtbl := jtbl_sel 49 (by decide +kernel) (by decide +kernel)
theorem ws_50 : Cond.selects "OutOrderModel" ⟨"OutOrderModel", "planFor", "(I)I"⟩ ⟨"OutOrderModel", "planFor", "(I)I"⟩ ∈ jtbl := jtbl_sel 50 (by decide +kernel) (by decide +kernel)
theorem ws_51 : Cond.selects "OutOrderModel" ⟨"OutOrderModel", "mayBeDone", "(II)Z"⟩ ⟨"OutOrderModel", "mayBeDone", "(II)Z"⟩ ∈ jtbl := jtbl_sel 51 (by decide +kernel) (by decide +kernel)
theorem jAI.self {E : jE} {n i : Nat} (h : jAI E n i) : jAI E (jl i) i := ⟨h.1, h.2.1, rfl⟩
theorem sh_FN_0 {E : jE} (hE : E.2.2.2 = jLX) {i : Nat} (h : jOB E 0 i) : jOB E 4 (jr i 0) := by
  obtain ⟨h1, h2⟩ := h
  have key : ∀ i ∈ jLX, jk i = 0 → jr i 0 ∈ jLX ∧ jk (jr i 0) = 4 := by decide +kernel
  have h3 := key i (hE ▸ h1) h2
  rw [← hE] at h3
  exact h3
theorem sh_FN_1 {E : jE} (hE : E.2.2.2 = jLX) {i : Nat} (h : jOB E 0 i) : jAI E 288 (jr i 1) := by
  obtain ⟨h1, h2⟩ := h
  have key : ∀ i ∈ jLX, jk i = 0 → jr i 1 ∈ jLX ∧ jk (jr i 1) = 1000 ∧ jl (jr i 1) = 288 := by decide +kernel
  have h3 := key i (hE ▸ h1) h2
  rw [← hE] at h3
  exact h3
theorem sh_FN_2 {E : jE} (hE : E.2.2.2 = jLX) {i : Nat} (h : jOB E 0 i) : jAI E 24 (jr i 2) := by
  obtain ⟨h1, h2⟩ := h
  have key : ∀ i ∈ jLX, jk i = 0 → jr i 2 ∈ jLX ∧ jk (jr i 2) = 1000 ∧ jl (jr i 2) = 24 := by decide +kernel
  have h3 := key i (hE ▸ h1) h2
  rw [← hE] at h3
  exact h3
theorem sh_FN_3 {E : jE} (hE : E.2.2.2 = jLX) {i : Nat} (h : jOB E 0 i) : jAI E 24 (jr i 3) := by
  obtain ⟨h1, h2⟩ := h
  have key : ∀ i ∈ jLX, jk i = 0 → jr i 3 ∈ jLX ∧ jk (jr i 3) = 1000 ∧ jl (jr i 3) = 24 := by decide +kernel
  have h3 := key i (hE ▸ h1) h2
  rw [← hE] at h3
  exact h3
theorem sh_FN_4 {E : jE} (hE : E.2.2.2 = jLX) {i : Nat} (h : jOB E 0 i) : jAI E 24 (jr i 4) := by
  obtain ⟨h1, h2⟩ := h
  have key : ∀ i ∈ jLX, jk i = 0 → jr i 4 ∈ jLX ∧ jk (jr i 4) = 1000 ∧ jl (jr i 4) = 24 := by decide +kernel
  have h3 := key i (hE ▸ h1) h2
  rw [← hE] at h3
  exact h3
theorem sh_FN_5 {E : jE} (hE : E.2.2.2 = jLX) {i : Nat} (h : jOB E 0 i) : jAI E 24 (jr i 5) := by
  obtain ⟨h1, h2⟩ := h
  have key : ∀ i ∈ jLX, jk i = 0 → jr i 5 ∈ jLX ∧ jk (jr i 5) = 1000 ∧ jl (jr i 5) = 24 := by decide +kernel
  have h3 := key i (hE ▸ h1) h2
  rw [← hE] at h3
  exact h3
theorem sh_FN_6 {E : jE} (hE : E.2.2.2 = jLX) {i : Nat} (h : jOB E 0 i) : jAI E 24 (jr i 6) := by
  obtain ⟨h1, h2⟩ := h
  have key : ∀ i ∈ jLX, jk i = 0 → jr i 6 ∈ jLX ∧ jk (jr i 6) = 1000 ∧ jl (jr i 6) = 24 := by decide +kernel
  have h3 := key i (hE ▸ h1) h2
  rw [← hE] at h3
  exact h3
theorem sh_GO_0 {E : jE} (hE : E.2.2.2 = jLX) {i : Nat} (h : jOB E 1 i) : jOB E 4 (jr i 0) := by
  obtain ⟨h1, h2⟩ := h
  have key : ∀ i ∈ jLX, jk i = 1 → jr i 0 ∈ jLX ∧ jk (jr i 0) = 4 := by decide +kernel
  have h3 := key i (hE ▸ h1) h2
  rw [← hE] at h3
  exact h3
theorem sh_GO_1 {E : jE} (hE : E.2.2.2 = jLX) {i : Nat} (h : jOB E 1 i) : jAI E 24 (jr i 1) := by
  obtain ⟨h1, h2⟩ := h
  have key : ∀ i ∈ jLX, jk i = 1 → jr i 1 ∈ jLX ∧ jk (jr i 1) = 1000 ∧ jl (jr i 1) = 24 := by decide +kernel
  have h3 := key i (hE ▸ h1) h2
  rw [← hE] at h3
  exact h3
theorem sh_LE_0 {E : jE} (hE : E.2.2.2 = jLX) {i : Nat} (h : jOB E 2 i) : jAI E 4096 (jr i 0) := by
  obtain ⟨h1, h2⟩ := h
  have key : ∀ i ∈ jLX, jk i = 2 → jr i 0 ∈ jLX ∧ jk (jr i 0) = 1000 ∧ jl (jr i 0) = 4096 := by decide +kernel
  have h3 := key i (hE ▸ h1) h2
  rw [← hE] at h3
  exact h3
theorem sh_LE_1 {E : jE} (hE : E.2.2.2 = jLX) {i : Nat} (h : jOB E 2 i) : jAI E 4096 (jr i 1) := by
  obtain ⟨h1, h2⟩ := h
  have key : ∀ i ∈ jLX, jk i = 2 → jr i 1 ∈ jLX ∧ jk (jr i 1) = 1000 ∧ jl (jr i 1) = 4096 := by decide +kernel
  have h3 := key i (hE ▸ h1) h2
  rw [← hE] at h3
  exact h3
theorem sh_LE_2 {E : jE} (hE : E.2.2.2 = jLX) {i : Nat} (h : jOB E 2 i) : jAA E 13 (jr i 2) := by
  obtain ⟨h1, h2⟩ := h
  have key : ∀ i ∈ jLX, jk i = 2 → jr i 2 ∈ jLX ∧ jk (jr i 2) = 1002 ∧ jl (jr i 2) = 13 := by decide +kernel
  have h3 := key i (hE ▸ h1) h2
  rw [← hE] at h3
  exact h3
theorem sh_LE_3 {E : jE} (hE : E.2.2.2 = jLX) {i : Nat} (h : jOB E 2 i) : jOB E 4 (jr i 3) := by
  obtain ⟨h1, h2⟩ := h
  have key : ∀ i ∈ jLX, jk i = 2 → jr i 3 ∈ jLX ∧ jk (jr i 3) = 4 := by decide +kernel
  have h3 := key i (hE ▸ h1) h2
  rw [← hE] at h3
  exact h3
theorem sh_NE_0 {E : jE} (hE : E.2.2.2 = jLX) {i : Nat} (h : jOB E 4 i) : jAI E 24 (jr i 0) := by
  obtain ⟨h1, h2⟩ := h
  have key : ∀ i ∈ jLX, jk i = 4 → jr i 0 ∈ jLX ∧ jk (jr i 0) = 1000 ∧ jl (jr i 0) = 24 := by decide +kernel
  have h3 := key i (hE ▸ h1) h2
  rw [← hE] at h3
  exact h3
theorem sh_PL_0 {E : jE} (hE : E.2.2.2 = jLX) {i : Nat} (h : jOB E 5 i) : jAI E 24 (jr i 0) := by
  obtain ⟨h1, h2⟩ := h
  have key : ∀ i ∈ jLX, jk i = 5 → jr i 0 ∈ jLX ∧ jk (jr i 0) = 1000 ∧ jl (jr i 0) = 24 := by decide +kernel
  have h3 := key i (hE ▸ h1) h2
  rw [← hE] at h3
  exact h3
theorem sh_RO_0 {E : jE} (hE : E.2.2.2 = jLX) {i : Nat} (h : jOB E 6 i) : jAI E 24 (jr i 0) := by
  obtain ⟨h1, h2⟩ := h
  have key : ∀ i ∈ jLX, jk i = 6 → jr i 0 ∈ jLX ∧ jk (jr i 0) = 1000 ∧ jl (jr i 0) = 24 := by decide +kernel
  have h3 := key i (hE ▸ h1) h2
  rw [← hE] at h3
  exact h3
theorem sh_RO_1 {E : jE} (hE : E.2.2.2 = jLX) {i : Nat} (h : jOB E 6 i) : jAI E 24 (jr i 1) := by
  obtain ⟨h1, h2⟩ := h
  have key : ∀ i ∈ jLX, jk i = 6 → jr i 1 ∈ jLX ∧ jk (jr i 1) = 1000 ∧ jl (jr i 1) = 24 := by decide +kernel
  have h3 := key i (hE ▸ h1) h2
  rw [← hE] at h3
  exact h3
theorem sh_RU_0 {E : jE} (hE : E.2.2.2 = jLX) {i : Nat} (h : jOB E 7 i) : jOB E 4 (jr i 0) := by
  obtain ⟨h1, h2⟩ := h
  have key : ∀ i ∈ jLX, jk i = 7 → jr i 0 ∈ jLX ∧ jk (jr i 0) = 4 := by decide +kernel
  have h3 := key i (hE ▸ h1) h2
  rw [← hE] at h3
  exact h3
theorem sh_TA_0 {E : jE} (hE : E.2.2.2 = jLX) {i : Nat} (h : jOB E 8 i) : jOB E 3 (jr i 0) := by
  obtain ⟨h1, h2⟩ := h
  have key : ∀ i ∈ jLX, jk i = 8 → jr i 0 ∈ jLX ∧ jk (jr i 0) = 3 := by decide +kernel
  have h3 := key i (hE ▸ h1) h2
  rw [← hE] at h3
  exact h3
theorem sh_TA_1 {E : jE} (hE : E.2.2.2 = jLX) {i : Nat} (h : jOB E 8 i) : jAA E 24 (jr i 1) := by
  obtain ⟨h1, h2⟩ := h
  have key : ∀ i ∈ jLX, jk i = 8 → jr i 1 ∈ jLX ∧ jk (jr i 1) = 1002 ∧ jl (jr i 1) = 24 := by decide +kernel
  have h3 := key i (hE ▸ h1) h2
  rw [← hE] at h3
  exact h3
theorem sh_TA_2 {E : jE} (hE : E.2.2.2 = jLX) {i : Nat} (h : jOB E 8 i) : jAI E 24 (jr i 2) := by
  obtain ⟨h1, h2⟩ := h
  have key : ∀ i ∈ jLX, jk i = 8 → jr i 2 ∈ jLX ∧ jk (jr i 2) = 1000 ∧ jl (jr i 2) = 24 := by decide +kernel
  have h3 := key i (hE ▸ h1) h2
  rw [← hE] at h3
  exact h3
theorem sh_TA_3 {E : jE} (hE : E.2.2.2 = jLX) {i : Nat} (h : jOB E 8 i) : jAI E 24 (jr i 3) := by
  obtain ⟨h1, h2⟩ := h
  have key : ∀ i ∈ jLX, jk i = 8 → jr i 3 ∈ jLX ∧ jk (jr i 3) = 1000 ∧ jl (jr i 3) = 24 := by decide +kernel
  have h3 := key i (hE ▸ h1) h2
  rw [← hE] at h3
  exact h3
theorem sh_WO_0 {E : jE} (hE : E.2.2.2 = jLX) {i : Nat} (h : jOB E 9 i) : jAA E 24 (jr i 0) := by
  obtain ⟨h1, h2⟩ := h
  have key : ∀ i ∈ jLX, jk i = 9 → jr i 0 ∈ jLX ∧ jk (jr i 0) = 1002 ∧ jl (jr i 0) = 24 := by decide +kernel
  have h3 := key i (hE ▸ h1) h2
  rw [← hE] at h3
  exact h3
theorem sh_WO_1 {E : jE} (hE : E.2.2.2 = jLX) {i : Nat} (h : jOB E 9 i) : jAI E 24 (jr i 1) := by
  obtain ⟨h1, h2⟩ := h
  have key : ∀ i ∈ jLX, jk i = 9 → jr i 1 ∈ jLX ∧ jk (jr i 1) = 1000 ∧ jl (jr i 1) = 24 := by decide +kernel
  have h3 := key i (hE ▸ h1) h2
  rw [← hE] at h3
  exact h3
theorem sh_WO_2 {E : jE} (hE : E.2.2.2 = jLX) {i : Nat} (h : jOB E 9 i) : jAI E 24 (jr i 2) := by
  obtain ⟨h1, h2⟩ := h
  have key : ∀ i ∈ jLX, jk i = 9 → jr i 2 ∈ jLX ∧ jk (jr i 2) = 1000 ∧ jl (jr i 2) = 24 := by decide +kernel
  have h3 := key i (hE ▸ h1) h2
  rw [← hE] at h3
  exact h3
theorem sh_WO_3 {E : jE} (hE : E.2.2.2 = jLX) {i : Nat} (h : jOB E 9 i) : jAI E 24 (jr i 3) := by
  obtain ⟨h1, h2⟩ := h
  have key : ∀ i ∈ jLX, jk i = 9 → jr i 3 ∈ jLX ∧ jk (jr i 3) = 1000 ∧ jl (jr i 3) = 24 := by decide +kernel
  have h3 := key i (hE ▸ h1) h2
  rw [← hE] at h3
  exact h3
theorem sh_OO_0 {E : jE} (hE : E.2.2.2 = jLX) {i : Nat} (h : jOB E 10 i) : jOB E 8 (jr i 0) := by
  obtain ⟨h1, h2⟩ := h
  have key : ∀ i ∈ jLX, jk i = 10 → jr i 0 ∈ jLX ∧ jk (jr i 0) = 8 := by decide +kernel
  have h3 := key i (hE ▸ h1) h2
  rw [← hE] at h3
  exact h3
theorem sh_OO_1 {E : jE} (hE : E.2.2.2 = jLX) {i : Nat} (h : jOB E 10 i) : jOB E 6 (jr i 1) := by
  obtain ⟨h1, h2⟩ := h
  have key : ∀ i ∈ jLX, jk i = 10 → jr i 1 ∈ jLX ∧ jk (jr i 1) = 6 := by decide +kernel
  have h3 := key i (hE ▸ h1) h2
  rw [← hE] at h3
  exact h3
theorem sh_OO_2 {E : jE} (hE : E.2.2.2 = jLX) {i : Nat} (h : jOB E 10 i) : jOB E 7 (jr i 2) := by
  obtain ⟨h1, h2⟩ := h
  have key : ∀ i ∈ jLX, jk i = 10 → jr i 2 ∈ jLX ∧ jk (jr i 2) = 7 := by decide +kernel
  have h3 := key i (hE ▸ h1) h2
  rw [← hE] at h3
  exact h3
theorem sh_OO_3 {E : jE} (hE : E.2.2.2 = jLX) {i : Nat} (h : jOB E 10 i) : jOB E 2 (jr i 3) := by
  obtain ⟨h1, h2⟩ := h
  have key : ∀ i ∈ jLX, jk i = 10 → jr i 3 ∈ jLX ∧ jk (jr i 3) = 2 := by decide +kernel
  have h3 := key i (hE ▸ h1) h2
  rw [← hE] at h3
  exact h3
theorem sh_OO_4 {E : jE} (hE : E.2.2.2 = jLX) {i : Nat} (h : jOB E 10 i) : jOB E 0 (jr i 4) := by
  obtain ⟨h1, h2⟩ := h
  have key : ∀ i ∈ jLX, jk i = 10 → jr i 4 ∈ jLX ∧ jk (jr i 4) = 0 := by decide +kernel
  have h3 := key i (hE ▸ h1) h2
  rw [← hE] at h3
  exact h3
theorem sh_OO_5 {E : jE} (hE : E.2.2.2 = jLX) {i : Nat} (h : jOB E 10 i) : jOB E 1 (jr i 5) := by
  obtain ⟨h1, h2⟩ := h
  have key : ∀ i ∈ jLX, jk i = 10 → jr i 5 ∈ jLX ∧ jk (jr i 5) = 1 := by decide +kernel
  have h3 := key i (hE ▸ h1) h2
  rw [← hE] at h3
  exact h3
theorem sh_OO_6 {E : jE} (hE : E.2.2.2 = jLX) {i : Nat} (h : jOB E 10 i) : jOB E 9 (jr i 6) := by
  obtain ⟨h1, h2⟩ := h
  have key : ∀ i ∈ jLX, jk i = 10 → jr i 6 ∈ jLX ∧ jk (jr i 6) = 9 := by decide +kernel
  have h3 := key i (hE ▸ h1) h2
  rw [← hE] at h3
  exact h3
theorem sh_OO_7 {E : jE} (hE : E.2.2.2 = jLX) {i : Nat} (h : jOB E 10 i) : jOB E 5 (jr i 7) := by
  obtain ⟨h1, h2⟩ := h
  have key : ∀ i ∈ jLX, jk i = 10 → jr i 7 ∈ jLX ∧ jk (jr i 7) = 5 := by decide +kernel
  have h3 := key i (hE ▸ h1) h2
  rw [← hE] at h3
  exact h3
theorem sh_OO_8 {E : jE} (hE : E.2.2.2 = jLX) {i : Nat} (h : jOB E 10 i) : jAI E 7 (jr i 8) := by
  obtain ⟨h1, h2⟩ := h
  have key : ∀ i ∈ jLX, jk i = 10 → jr i 8 ∈ jLX ∧ jk (jr i 8) = 1000 ∧ jl (jr i 8) = 7 := by decide +kernel
  have h3 := key i (hE ▸ h1) h2
  rw [← hE] at h3
  exact h3
theorem sh_MD_2 {E : jE} (hE : E.2.2.2 = jLM) {i : Nat} (h : jOB E 11 i) : jAI E 576 (jr i 2) := by
  obtain ⟨h1, h2⟩ := h
  have key : ∀ i ∈ jLM, jk i = 11 → jr i 2 ∈ jLM ∧ jk (jr i 2) = 1000 ∧ jl (jr i 2) = 576 := by decide +kernel
  have h3 := key i (hE ▸ h1) h2
  rw [← hE] at h3
  exact h3
theorem sh_MD_3 {E : jE} (hE : E.2.2.2 = jLM) {i : Nat} (h : jOB E 11 i) : jAB E 24 (jr i 3) := by
  obtain ⟨h1, h2⟩ := h
  have key : ∀ i ∈ jLM, jk i = 11 → jr i 3 ∈ jLM ∧ jk (jr i 3) = 1001 ∧ jl (jr i 3) = 24 := by decide +kernel
  have h3 := key i (hE ▸ h1) h2
  rw [← hE] at h3
  exact h3
theorem sh_MD_4 {E : jE} (hE : E.2.2.2 = jLM) {i : Nat} (h : jOB E 11 i) : jAI E 24 (jr i 4) := by
  obtain ⟨h1, h2⟩ := h
  have key : ∀ i ∈ jLM, jk i = 11 → jr i 4 ∈ jLM ∧ jk (jr i 4) = 1000 ∧ jl (jr i 4) = 24 := by decide +kernel
  have h3 := key i (hE ▸ h1) h2
  rw [← hE] at h3
  exact h3
theorem sh_MD_5 {E : jE} (hE : E.2.2.2 = jLM) {i : Nat} (h : jOB E 11 i) : jAI E 24 (jr i 5) := by
  obtain ⟨h1, h2⟩ := h
  have key : ∀ i ∈ jLM, jk i = 11 → jr i 5 ∈ jLM ∧ jk (jr i 5) = 1000 ∧ jl (jr i 5) = 24 := by decide +kernel
  have h3 := key i (hE ▸ h1) h2
  rw [← hE] at h3
  exact h3
theorem sh_MD_6 {E : jE} (hE : E.2.2.2 = jLM) {i : Nat} (h : jOB E 11 i) : jAI E 7 (jr i 6) := by
  obtain ⟨h1, h2⟩ := h
  have key : ∀ i ∈ jLM, jk i = 11 → jr i 6 ∈ jLM ∧ jk (jr i 6) = 1000 ∧ jl (jr i 6) = 7 := by decide +kernel
  have h3 := key i (hE ▸ h1) h2
  rw [← hE] at h3
  exact h3
theorem sh_MD_7 {E : jE} (hE : E.2.2.2 = jLM) {i : Nat} (h : jOB E 11 i) : jAI E 24 (jr i 7) := by
  obtain ⟨h1, h2⟩ := h
  have key : ∀ i ∈ jLM, jk i = 11 → jr i 7 ∈ jLM ∧ jk (jr i 7) = 1000 ∧ jl (jr i 7) = 24 := by decide +kernel
  have h3 := key i (hE ▸ h1) h2
  rw [← hE] at h3
  exact h3
theorem sh_MD_8 {E : jE} (hE : E.2.2.2 = jLM) {i : Nat} (h : jOB E 11 i) : jAI E 24 (jr i 8) := by
  obtain ⟨h1, h2⟩ := h
  have key : ∀ i ∈ jLM, jk i = 11 → jr i 8 ∈ jLM ∧ jk (jr i 8) = 1000 ∧ jl (jr i 8) = 24 := by decide +kernel
  have h3 := key i (hE ▸ h1) h2
  rw [← hE] at h3
  exact h3
theorem sh_MD_9 {E : jE} (hE : E.2.2.2 = jLM) {i : Nat} (h : jOB E 11 i) : jAI E 300 (jr i 9) := by
  obtain ⟨h1, h2⟩ := h
  have key : ∀ i ∈ jLM, jk i = 11 → jr i 9 ∈ jLM ∧ jk (jr i 9) = 1000 ∧ jl (jr i 9) = 300 := by decide +kernel
  have h3 := key i (hE ▸ h1) h2
  rw [← hE] at h3
  exact h3
theorem sh_MD_11 {E : jE} (hE : E.2.2.2 = jLM) {i : Nat} (h : jOB E 11 i) : jAI E 24 (jr i 11) := by
  obtain ⟨h1, h2⟩ := h
  have key : ∀ i ∈ jLM, jk i = 11 → jr i 11 ∈ jLM ∧ jk (jr i 11) = 1000 ∧ jl (jr i 11) = 24 := by decide +kernel
  have h3 := key i (hE ▸ h1) h2
  rw [← hE] at h3
  exact h3
theorem sh_MD_12 {E : jE} (hE : E.2.2.2 = jLM) {i : Nat} (h : jOB E 11 i) : jAI E 4096 (jr i 12) := by
  obtain ⟨h1, h2⟩ := h
  have key : ∀ i ∈ jLM, jk i = 11 → jr i 12 ∈ jLM ∧ jk (jr i 12) = 1000 ∧ jl (jr i 12) = 4096 := by decide +kernel
  have h3 := key i (hE ▸ h1) h2
  rw [← hE] at h3
  exact h3
theorem sh_MD_14 {E : jE} (hE : E.2.2.2 = jLM) {i : Nat} (h : jOB E 11 i) : jAI E 24 (jr i 14) := by
  obtain ⟨h1, h2⟩ := h
  have key : ∀ i ∈ jLM, jk i = 11 → jr i 14 ∈ jLM ∧ jk (jr i 14) = 1000 ∧ jl (jr i 14) = 24 := by decide +kernel
  have h3 := key i (hE ▸ h1) h2
  rw [← hE] at h3
  exact h3
theorem sh_MD_16 {E : jE} (hE : E.2.2.2 = jLM) {i : Nat} (h : jOB E 11 i) : jAI E 600 (jr i 16) := by
  obtain ⟨h1, h2⟩ := h
  have key : ∀ i ∈ jLM, jk i = 11 → jr i 16 ∈ jLM ∧ jk (jr i 16) = 1000 ∧ jl (jr i 16) = 600 := by decide +kernel
  have h3 := key i (hE ▸ h1) h2
  rw [← hE] at h3
  exact h3
theorem sh_MD_17 {E : jE} (hE : E.2.2.2 = jLM) {i : Nat} (h : jOB E 11 i) : jAI E 24 (jr i 17) := by
  obtain ⟨h1, h2⟩ := h
  have key : ∀ i ∈ jLM, jk i = 11 → jr i 17 ∈ jLM ∧ jk (jr i 17) = 1000 ∧ jl (jr i 17) = 24 := by decide +kernel
  have h3 := key i (hE ▸ h1) h2
  rw [← hE] at h3
  exact h3
theorem sh_MD_20 {E : jE} (hE : E.2.2.2 = jLM) {i : Nat} (h : jOB E 11 i) : jAI E 24 (jr i 20) := by
  obtain ⟨h1, h2⟩ := h
  have key : ∀ i ∈ jLM, jk i = 11 → jr i 20 ∈ jLM ∧ jk (jr i 20) = 1000 ∧ jl (jr i 20) = 24 := by decide +kernel
  have h3 := key i (hE ▸ h1) h2
  rw [← hE] at h3
  exact h3
theorem sh_MD_21 {E : jE} (hE : E.2.2.2 = jLM) {i : Nat} (h : jOB E 11 i) : jAI E 576 (jr i 21) := by
  obtain ⟨h1, h2⟩ := h
  have key : ∀ i ∈ jLM, jk i = 11 → jr i 21 ∈ jLM ∧ jk (jr i 21) = 1000 ∧ jl (jr i 21) = 576 := by decide +kernel
  have h3 := key i (hE ▸ h1) h2
  rw [← hE] at h3
  exact h3
theorem sh_MD_22 {E : jE} (hE : E.2.2.2 = jLM) {i : Nat} (h : jOB E 11 i) : jAI E 24 (jr i 22) := by
  obtain ⟨h1, h2⟩ := h
  have key : ∀ i ∈ jLM, jk i = 11 → jr i 22 ∈ jLM ∧ jk (jr i 22) = 1000 ∧ jl (jr i 22) = 24 := by decide +kernel
  have h3 := key i (hE ▸ h1) h2
  rw [← hE] at h3
  exact h3
theorem sh_MD_23 {E : jE} (hE : E.2.2.2 = jLM) {i : Nat} (h : jOB E 11 i) : jAI E 24 (jr i 23) := by
  obtain ⟨h1, h2⟩ := h
  have key : ∀ i ∈ jLM, jk i = 11 → jr i 23 ∈ jLM ∧ jk (jr i 23) = 1000 ∧ jl (jr i 23) = 24 := by decide +kernel
  have h3 := key i (hE ▸ h1) h2
  rw [← hE] at h3
  exact h3
theorem sr_13_12 {E : jE} (hE : E.2.2.2 = jLX) {i : Nat} (h : jAA E 13 i) {x : Int32} (hx : vp_in x 13) : jAI E 12 (jw i x.toNatClampNeg) := by
  obtain ⟨h1, h2, h4⟩ := h
  have hlt : x.toNatClampNeg < 13 := Nat.not_le.mp fun q => hx (Or.inr q)
  have key : ∀ i ∈ jLX, jk i = 1002 → jl i = 13 → ∀ j, j < 13 → jw i j ∈ jLX ∧ jk (jw i j) = 1000 ∧ jl (jw i j) = 12 := by decide +kernel
  have h3 := key i (hE ▸ h1) h2 h4 _ hlt
  rw [← hE] at h3
  exact h3
theorem sr_24_24 {E : jE} (hE : E.2.2.2 = jLX) {i : Nat} (h : jAA E 24 i) {x : Int32} (hx : vp_in x 24) : jAI E 24 (jw i x.toNatClampNeg) := by
  obtain ⟨h1, h2, h4⟩ := h
  have hlt : x.toNatClampNeg < 24 := Nat.not_le.mp fun q => hx (Or.inr q)
  have key : ∀ i ∈ jLX, jk i = 1002 → jl i = 24 → ∀ j, j < 24 → jw i j ∈ jLX ∧ jk (jw i j) = 1000 ∧ jl (jw i j) = 24 := by decide +kernel
  have h3 := key i (hE ▸ h1) h2 h4 _ hlt
  rw [← hE] at h3
  exact h3
theorem sw_ne {x k : Int32} {n : Int} (hk : k.toInt = n) (h : ¬ x = k) : x.toInt ≠ n := fun e => h (Int32.toInt_inj.mp (e.trans hk.symm))
theorem ic_m1 : Int32.ofInt (-1) = (-1 : Int32) := by decide
theorem ic_0 : Int32.ofInt (0) = (0 : Int32) := by decide
theorem ic_1 : Int32.ofInt (1) = (1 : Int32) := by decide
theorem ic_2 : Int32.ofInt (2) = (2 : Int32) := by decide
theorem ic_3 : Int32.ofInt (3) = (3 : Int32) := by decide
theorem ic_4 : Int32.ofInt (4) = (4 : Int32) := by decide
theorem ic_5 : Int32.ofInt (5) = (5 : Int32) := by decide
theorem ib_m9 : (Int8.ofInt (-9)).toInt32 = (-9 : Int32) := by decide
theorem ib_m6 : (Int8.ofInt (-6)).toInt32 = (-6 : Int32) := by decide
theorem ib_m5 : (Int8.ofInt (-5)).toInt32 = (-5 : Int32) := by decide
theorem ib_m4 : (Int8.ofInt (-4)).toInt32 = (-4 : Int32) := by decide
theorem ib_m3 : (Int8.ofInt (-3)).toInt32 = (-3 : Int32) := by decide
theorem ib_m2 : (Int8.ofInt (-2)).toInt32 = (-2 : Int32) := by decide
theorem ib_6 : (Int8.ofInt (6)).toInt32 = (6 : Int32) := by decide
theorem ib_7 : (Int8.ofInt (7)).toInt32 = (7 : Int32) := by decide
theorem ib_8 : (Int8.ofInt (8)).toInt32 = (8 : Int32) := by decide
theorem ib_10 : (Int8.ofInt (10)).toInt32 = (10 : Int32) := by decide
theorem ib_11 : (Int8.ofInt (11)).toInt32 = (11 : Int32) := by decide
theorem ib_12 : (Int8.ofInt (12)).toInt32 = (12 : Int32) := by decide
theorem ib_13 : (Int8.ofInt (13)).toInt32 = (13 : Int32) := by decide
theorem ib_16 : (Int8.ofInt (16)).toInt32 = (16 : Int32) := by decide
theorem ib_24 : (Int8.ofInt (24)).toInt32 = (24 : Int32) := by decide
theorem ib_31 : (Int8.ofInt (31)).toInt32 = (31 : Int32) := by decide
theorem ib_32 : (Int8.ofInt (32)).toInt32 = (32 : Int32) := by decide
theorem ib_63 : (Int8.ofInt (63)).toInt32 = (63 : Int32) := by decide
theorem is_288 : (Int16.ofInt (288)).toInt32 = (288 : Int32) := by decide
theorem is_300 : (Int16.ofInt (300)).toInt32 = (300 : Int32) := by decide
theorem is_576 : (Int16.ofInt (576)).toInt32 = (576 : Int32) := by decide
theorem is_600 : (Int16.ofInt (600)).toInt32 = (600 : Int32) := by decide
theorem is_4096 : (Int16.ofInt (4096)).toInt32 = (4096 : Int32) := by decide
theorem is_32749 : (Int16.ofInt (32749)).toInt32 = (32749 : Int32) := by decide
theorem fg_OO_19 {Z : jZ} {E : jE} {cc : ByteArray} {nL fR lR : Nat} {Q : State → Prop} {pc : Nat} {lv : List (Nat × Value)} {st : List Value} {I : jM} (C : jC Z E cc nL "OutOrder" fR lR) {i : Nat} (hi : jOB E 10 i) (d : decode cc pc = .ok (.getfield 19, 3)) (h : jJ Z E nL Q (pc + 3) lv (.ref (E.2.2.1 (jr i 1)) :: st) I) : jJ Z E nL Q pc lv (.ref (E.2.2.1 i) :: st) I := j_getR C jcl_OO hi (k := 1) (by decide) rfl (ref := "OutOrder") rfl w_313 d h
theorem cw_OO_286 : jcw "OutOrder" 286 ⟨"OutOrder$Row", "turn", "()V"⟩ prog_9_method_5_code 2 none 0 := ⟨w_399, w_396, w_4, ⟨by decide, by decide⟩, by decide +kernel⟩
theorem fg_OO_26 {Z : jZ} {E : jE} {cc : ByteArray} {nL fR lR : Nat} {Q : State → Prop} {pc : Nat} {lv : List (Nat × Value)} {st : List Value} {I : jM} (C : jC Z E cc nL "OutOrder" fR lR) {i : Nat} (hi : jOB E 10 i) (d : decode cc pc = .ok (.getfield 26, 3)) (h : jJ Z E nL Q (pc + 3) lv (.ref (E.2.2.1 (jr i 2)) :: st) I) : jJ Z E nL Q pc lv (.ref (E.2.2.1 i) :: st) I := j_getR C jcl_OO hi (k := 2) (by decide) rfl (ref := "OutOrder") rfl w_314 d h
theorem fg_OO_12 {Z : jZ} {E : jE} {cc : ByteArray} {nL fR lR : Nat} {Q : State → Prop} {pc : Nat} {lv : List (Nat × Value)} {st : List Value} {I : jM} (C : jC Z E cc nL "OutOrder" fR lR) {i : Nat} (hi : jOB E 10 i) (d : decode cc pc = .ok (.getfield 12, 3)) (h : jJ Z E nL Q (pc + 3) lv (.ref (E.2.2.1 (jr i 0)) :: st) I) : jJ Z E nL Q pc lv (.ref (E.2.2.1 i) :: st) I := j_getR C jcl_OO hi (k := 0) (by decide) rfl (ref := "OutOrder") rfl w_312 d h
theorem cw_OO_289 : jcw "OutOrder" 289 ⟨"OutOrder$Rules", "search", "(LOutOrder$Table;LOutOrder$Row;)V"⟩ prog_10_method_5_code 6 none 2 := ⟨w_407, w_404, w_5, ⟨by decide, by decide⟩, by decide +kernel⟩
theorem cw_OO_168 : jcw "OutOrder" 168 ⟨"OutOrder", "knownMinima", "()LOutOrder$Least;"⟩ prog_1_method_38_code 1 (some (.object "OutOrder$Least")) 0 := ⟨w_421, w_418, w_1, ⟨by decide, by decide⟩, by decide +kernel⟩
theorem cw_OO_292 : jcw "OutOrder" 292 ⟨"OutOrder$Least", "walk", "(LOutOrder$Table;LOutOrder$Row;Z)V"⟩ prog_4_method_5_code 7 none 3 := ⟨w_450, w_447, w_7, ⟨by decide, by decide⟩, by decide +kernel⟩
theorem cw_OO_296 : jcw "OutOrder" 296 ⟨"OutOrder$Rules", "greedy", "(ILOutOrder$Table;LOutOrder$Row;)V"⟩ prog_10_method_2_code 7 none 3 := ⟨w_473, w_470, w_5, ⟨by decide, by decide⟩, by decide +kernel⟩
theorem cw_OO_83 : jcw "OutOrder" 83 ⟨"OutOrder", "isNobody", "(I)Z"⟩ prog_1_method_31_code 2 (some .boolean) 1 := ⟨w_364, w_361, w_1, ⟨by decide, by decide⟩, by decide +kernel⟩
theorem cw_OO_73 : jcw "OutOrder" 73 ⟨"OutOrder", "refuse", "(I)I"⟩ prog_1_method_32_code 3 (some .int) 1 := ⟨w_353, w_350, w_1, ⟨by decide, by decide⟩, by decide +kernel⟩
theorem fg_OO_124 {Z : jZ} {E : jE} {cc : ByteArray} {nL fR lR : Nat} {Q : State → Prop} {pc : Nat} {lv : List (Nat × Value)} {st : List Value} {I : jM} (C : jC Z E cc nL "OutOrder" fR lR) {i : Nat} (hi : jOB E 6 i) (d : decode cc pc = .ok (.getfield 124, 3)) (h : jJ Z E nL Q (pc + 3) lv (.ref (E.2.2.1 (jr i 0)) :: st) I) : jJ Z E nL Q pc lv (.ref (E.2.2.1 i) :: st) I := j_getRN C jcl_RO hi (k := 0) (by decide) rfl (ref := "OutOrder$Row") rfl (List.mem_of_getElem? (i := 22) rfl : Cond.fieldLinkNest "OutOrder" 124 "OutOrder$Row" "unknowns" "[I" "OutOrder" ∈ jnst) d h
theorem fg_OO_47 {Z : jZ} {E : jE} {cc : ByteArray} {nL fR lR : Nat} {Q : State → Prop} {pc : Nat} {lv : List (Nat × Value)} {st : List Value} {I : jM} (C : jC Z E cc nL "OutOrder" fR lR) {i : Nat} (hi : jOB E 10 i) (d : decode cc pc = .ok (.getfield 47, 3)) (h : jJ Z E nL Q (pc + 3) lv (.ref (E.2.2.1 (jr i 5)) :: st) I) : jJ Z E nL Q pc lv (.ref (E.2.2.1 i) :: st) I := j_getR C jcl_OO hi (k := 5) (by decide) rfl (ref := "OutOrder") rfl w_317 d h
theorem cw_OO_207 : jcw "OutOrder" 207 ⟨"OutOrder$Going", "undo", "(LOutOrder$Table;)I"⟩ prog_3_method_4_code 3 (some .int) 1 := ⟨w_615, w_612, w_9, ⟨by decide, by decide⟩, by decide +kernel⟩
theorem cw_OO_181 : jcw "OutOrder" 181 ⟨"OutOrder$Going", "restart", "(LOutOrder$Table;)V"⟩ prog_3_method_2_code 2 none 1 := ⟨w_299, w_296, w_9, ⟨by decide, by decide⟩, by decide +kernel⟩
theorem fg_OO_104 {Z : jZ} {E : jE} {cc : ByteArray} {nL fR lR : Nat} {Q : State → Prop} {pc : Nat} {lv : List (Nat × Value)} {st : List Value} {I : jM} (C : jC Z E cc nL "OutOrder" fR lR) {i : Nat} (hi : jOB E 8 i) (d : decode cc pc = .ok (.getfield 104, 3)) (h : jJ Z E nL Q (pc + 3) lv (.int (I i 4) :: st) I) : jJ Z E nL Q pc lv (.ref (E.2.2.1 i) :: st) I := j_getIN C jcl_TA hi (k := 4) (by decide) rfl (ref := "OutOrder$Table") rfl (List.mem_of_getElem? (i := 16) rfl : Cond.fieldLinkNest "OutOrder" 104 "OutOrder$Table" "n" "I" "OutOrder" ∈ jnst) d h
theorem cw_OO_114 : jcw "OutOrder" 114 ⟨"OutOrder", "fullNet", "()LOutOrder$FullNet;"⟩ prog_1_method_37_code 1 (some (.object "OutOrder$FullNet")) 0 := ⟨w_492, w_489, w_1, ⟨by decide, by decide⟩, by decide +kernel⟩
theorem fg_OO_130 {Z : jZ} {E : jE} {cc : ByteArray} {nL fR lR : Nat} {Q : State → Prop} {pc : Nat} {lv : List (Nat × Value)} {st : List Value} {I : jM} (C : jC Z E cc nL "OutOrder" fR lR) {i : Nat} (hi : jOB E 6 i) (d : decode cc pc = .ok (.getfield 130, 3)) (h : jJ Z E nL Q (pc + 3) lv (.ref (E.2.2.1 (jr i 1)) :: st) I) : jJ Z E nL Q pc lv (.ref (E.2.2.1 i) :: st) I := j_getRN C jcl_RO hi (k := 1) (by decide) rfl (ref := "OutOrder$Row") rfl (List.mem_of_getElem? (i := 23) rfl : Cond.fieldLinkNest "OutOrder" 130 "OutOrder$Row" "places" "[I" "OutOrder" ∈ jnst) d h
theorem fg_OO_133 {Z : jZ} {E : jE} {cc : ByteArray} {nL fR lR : Nat} {Q : State → Prop} {pc : Nat} {lv : List (Nat × Value)} {st : List Value} {I : jM} (C : jC Z E cc nL "OutOrder" fR lR) {i : Nat} (hi : jOB E 0 i) (d : decode cc pc = .ok (.getfield 133, 3)) (h : jJ Z E nL Q (pc + 3) lv (.ref (E.2.2.1 (jr i 2)) :: st) I) : jJ Z E nL Q pc lv (.ref (E.2.2.1 i) :: st) I := j_getRN C jcl_FN hi (k := 2) (by decide) rfl (ref := "OutOrder$FullNet") rfl (List.mem_of_getElem? (i := 39) rfl : Cond.fieldLinkNest "OutOrder" 133 "OutOrder$FullNet" "behind" "[I" "OutOrder" ∈ jnst) d h
theorem cw_OO_136 : jcw "OutOrder" 136 ⟨"java/lang/Integer", "bitCount", "(I)I"⟩ prog_15_method_49_code 1 (some .int) 1 := ⟨w_413, w_545, w_14, ⟨by decide, by decide⟩, by decide +kernel⟩
theorem fg_OO_141 {Z : jZ} {E : jE} {cc : ByteArray} {nL fR lR : Nat} {Q : State → Prop} {pc : Nat} {lv : List (Nat × Value)} {st : List Value} {I : jM} (C : jC Z E cc nL "OutOrder" fR lR) {i : Nat} (hi : jOB E 0 i) (d : decode cc pc = .ok (.getfield 141, 3)) (h : jJ Z E nL Q (pc + 3) lv (.ref (E.2.2.1 (jr i 3)) :: st) I) : jJ Z E nL Q pc lv (.ref (E.2.2.1 i) :: st) I := j_getRN C jcl_FN hi (k := 3) (by decide) rfl (ref := "OutOrder$FullNet") rfl (List.mem_of_getElem? (i := 40) rfl : Cond.fieldLinkNest "OutOrder" 141 "OutOrder$FullNet" "parents" "[I" "OutOrder" ∈ jnst) d h
theorem fg_OO_144 {Z : jZ} {E : jE} {cc : ByteArray} {nL fR lR : Nat} {Q : State → Prop} {pc : Nat} {lv : List (Nat × Value)} {st : List Value} {I : jM} (C : jC Z E cc nL "OutOrder" fR lR) {i : Nat} (hi : jOB E 0 i) (d : decode cc pc = .ok (.getfield 144, 3)) (h : jJ Z E nL Q (pc + 3) lv (.ref (E.2.2.1 (jr i 4)) :: st) I) : jJ Z E nL Q pc lv (.ref (E.2.2.1 i) :: st) I := j_getRN C jcl_FN hi (k := 4) (by decide) rfl (ref := "OutOrder$FullNet") rfl (List.mem_of_getElem? (i := 42) rfl : Cond.fieldLinkNest "OutOrder" 144 "OutOrder$FullNet" "heights" "[I" "OutOrder" ∈ jnst) d h
theorem fg_OO_147 {Z : jZ} {E : jE} {cc : ByteArray} {nL fR lR : Nat} {Q : State → Prop} {pc : Nat} {lv : List (Nat × Value)} {st : List Value} {I : jM} (C : jC Z E cc nL "OutOrder" fR lR) {i : Nat} (hi : jOB E 0 i) (d : decode cc pc = .ok (.getfield 147, 3)) (h : jJ Z E nL Q (pc + 3) lv (.ref (E.2.2.1 (jr i 5)) :: st) I) : jJ Z E nL Q pc lv (.ref (E.2.2.1 i) :: st) I := j_getRN C jcl_FN hi (k := 5) (by decide) rfl (ref := "OutOrder$FullNet") rfl (List.mem_of_getElem? (i := 44) rfl : Cond.fieldLinkNest "OutOrder" 147 "OutOrder$FullNet" "children" "[I" "OutOrder" ∈ jnst) d h
theorem fg_OO_118 {Z : jZ} {E : jE} {cc : ByteArray} {nL fR lR : Nat} {Q : State → Prop} {pc : Nat} {lv : List (Nat × Value)} {st : List Value} {I : jM} (C : jC Z E cc nL "OutOrder" fR lR) {i : Nat} (hi : jOB E 0 i) (d : decode cc pc = .ok (.getfield 118, 3)) (h : jJ Z E nL Q (pc + 3) lv (.int (I i 7) :: st) I) : jJ Z E nL Q pc lv (.ref (E.2.2.1 i) :: st) I := j_getIN C jcl_FN hi (k := 7) (by decide) rfl (ref := "OutOrder$FullNet") rfl (List.mem_of_getElem? (i := 46) rfl : Cond.fieldLinkNest "OutOrder" 118 "OutOrder$FullNet" "fillCount" "I" "OutOrder" ∈ jnst) d h
theorem fg_OO_127 {Z : jZ} {E : jE} {cc : ByteArray} {nL fR lR : Nat} {Q : State → Prop} {pc : Nat} {lv : List (Nat × Value)} {st : List Value} {I : jM} (C : jC Z E cc nL "OutOrder" fR lR) {i : Nat} (hi : jOB E 0 i) (d : decode cc pc = .ok (.getfield 127, 3)) (h : jJ Z E nL Q (pc + 3) lv (.ref (E.2.2.1 (jr i 1)) :: st) I) : jJ Z E nL Q pc lv (.ref (E.2.2.1 i) :: st) I := j_getRN C jcl_FN hi (k := 1) (by decide) rfl (ref := "OutOrder$FullNet") rfl (List.mem_of_getElem? (i := 38) rfl : Cond.fieldLinkNest "OutOrder" 127 "OutOrder$FullNet" "pairs" "[I" "OutOrder" ∈ jnst) d h
theorem fg_OO_280 {Z : jZ} {E : jE} {cc : ByteArray} {nL fR lR : Nat} {Q : State → Prop} {pc : Nat} {lv : List (Nat × Value)} {st : List Value} {I : jM} (C : jC Z E cc nL "OutOrder" fR lR) {i : Nat} (hi : jOB E 10 i) (d : decode cc pc = .ok (.getfield 280, 3)) (h : jJ Z E nL Q (pc + 3) lv (.int (I i 9) :: st) I) : jJ Z E nL Q pc lv (.ref (E.2.2.1 i) :: st) I := j_getI C jcl_OO hi (k := 9) (by decide) rfl (ref := "OutOrder") rfl w_321 d h
theorem fg_OO_40 {Z : jZ} {E : jE} {cc : ByteArray} {nL fR lR : Nat} {Q : State → Prop} {pc : Nat} {lv : List (Nat × Value)} {st : List Value} {I : jM} (C : jC Z E cc nL "OutOrder" fR lR) {i : Nat} (hi : jOB E 10 i) (d : decode cc pc = .ok (.getfield 40, 3)) (h : jJ Z E nL Q (pc + 3) lv (.ref (E.2.2.1 (jr i 4)) :: st) I) : jJ Z E nL Q pc lv (.ref (E.2.2.1 i) :: st) I := j_getR C jcl_OO hi (k := 4) (by decide) rfl (ref := "OutOrder") rfl w_316 d h
theorem cw_OO_300 : jcw "OutOrder" 300 ⟨"OutOrder$FullNet", "reckon", "(LOutOrder$Table;LOutOrder$Row;)V"⟩ prog_2_method_2_code 5 none 2 := ⟨w_496, w_493, w_8, ⟨by decide, by decide⟩, by decide +kernel⟩
theorem fp_OO_280 {Z : jZ} {E : jE} {cc : ByteArray} {nL fR lR : Nat} {Q : State → Prop} {pc : Nat} {lv : List (Nat × Value)} {st : List Value} {I : jM} (C : jC Z E cc nL "OutOrder" fR lR) {i : Nat} {v : Int32} (hn : narrow .boolean (.int v) = .int v) (hf : fits .boolean (.int v) = true) (hi : jOB E 10 i) (d : decode cc pc = .ok (.putfield 280, 3)) (h : jJ Z E nL Q (pc + 3) lv st (jwr I i 9 v)) : jJ Z E nL Q pc lv (.int v :: .ref (E.2.2.1 i) :: st) I := j_put C jcl_OO hi (k := 9) (by decide) rfl (ref := "OutOrder") rfl rfl w_321 hn hf d h
theorem fg_OO_185 {Z : jZ} {E : jE} {cc : ByteArray} {nL fR lR : Nat} {Q : State → Prop} {pc : Nat} {lv : List (Nat × Value)} {st : List Value} {I : jM} (C : jC Z E cc nL "OutOrder" fR lR) {i : Nat} (hi : jOB E 1 i) (d : decode cc pc = .ok (.getfield 185, 3)) (h : jJ Z E nL Q (pc + 3) lv (.ref (E.2.2.1 (jr i 0)) :: st) I) : jJ Z E nL Q pc lv (.ref (E.2.2.1 i) :: st) I := j_getRN C jcl_GO hi (k := 0) (by decide) rfl (ref := "OutOrder$Going") rfl (List.mem_of_getElem? (i := 49) rfl : Cond.fieldLinkNest "OutOrder" 185 "OutOrder$Going" "net" "LOutOrder$Net;" "OutOrder" ∈ jnst) d h
theorem cw_OO_189 : jcw "OutOrder" 189 ⟨"OutOrder$Net", "has", "(I)Z"⟩ prog_6_method_3_code 2 (some .boolean) 1 := ⟨w_459, w_588, w_6, ⟨by decide, by decide⟩, by decide +kernel⟩
theorem fg_OO_100 {Z : jZ} {E : jE} {cc : ByteArray} {nL fR lR : Nat} {Q : State → Prop} {pc : Nat} {lv : List (Nat × Value)} {st : List Value} {I : jM} (C : jC Z E cc nL "OutOrder" fR lR) {i : Nat} (hi : jOB E 8 i) (d : decode cc pc = .ok (.getfield 100, 3)) (h : jJ Z E nL Q (pc + 3) lv (.int (I i 5) :: st) I) : jJ Z E nL Q pc lv (.ref (E.2.2.1 i) :: st) I := j_getIN C jcl_TA hi (k := 5) (by decide) rfl (ref := "OutOrder$Table") rfl (List.mem_of_getElem? (i := 18) rfl : Cond.fieldLinkNest "OutOrder" 100 "OutOrder$Table" "held" "I" "OutOrder" ∈ jnst) d h
theorem cw_OO_200 : jcw "OutOrder" 200 ⟨"OutOrder$Going", "kind", "(II)I"⟩ prog_3_method_5_code 3 (some .int) 2 := ⟨w_602, w_599, w_9, ⟨by decide, by decide⟩, by decide +kernel⟩
theorem fg_OO_204 {Z : jZ} {E : jE} {cc : ByteArray} {nL fR lR : Nat} {Q : State → Prop} {pc : Nat} {lv : List (Nat × Value)} {st : List Value} {I : jM} (C : jC Z E cc nL "OutOrder" fR lR) {i : Nat} (hi : jOB E 4 i) (d : decode cc pc = .ok (.getfield 204, 3)) (h : jJ Z E nL Q (pc + 3) lv (.ref (E.2.2.1 (jr i 0)) :: st) I) : jJ Z E nL Q pc lv (.ref (E.2.2.1 i) :: st) I := j_getRN C jcl_NE hi (k := 0) (by decide) rfl (ref := "OutOrder$Net") rfl (List.mem_of_getElem? (i := 30) rfl : Cond.fieldLinkNest "OutOrder" 204 "OutOrder$Net" "near" "[I" "OutOrder" ∈ jnst) d h
theorem cw_OO_194 : jcw "OutOrder" 194 ⟨"OutOrder$Net", "missing", "(I)I"⟩ prog_6_method_4_code 5 (some .int) 1 := ⟨w_486, w_589, w_6, ⟨by decide, by decide⟩, by decide +kernel⟩
theorem fg_OO_153 {Z : jZ} {E : jE} {cc : ByteArray} {nL fR lR : Nat} {Q : State → Prop} {pc : Nat} {lv : List (Nat × Value)} {st : List Value} {I : jM} (C : jC Z E cc nL "OutOrder" fR lR) {i : Nat} (hi : jOB E 0 i) (d : decode cc pc = .ok (.getfield 153, 3)) (h : jJ Z E nL Q (pc + 3) lv (.int (I i 8) :: st) I) : jJ Z E nL Q pc lv (.ref (E.2.2.1 i) :: st) I := j_getIN C jcl_FN hi (k := 8) (by decide) rfl (ref := "OutOrder$FullNet") rfl (List.mem_of_getElem? (i := 47) rfl : Cond.fieldLinkNest "OutOrder" 153 "OutOrder$FullNet" "groupCount" "I" "OutOrder" ∈ jnst) d h
theorem fg_OO_156 {Z : jZ} {E : jE} {cc : ByteArray} {nL fR lR : Nat} {Q : State → Prop} {pc : Nat} {lv : List (Nat × Value)} {st : List Value} {I : jM} (C : jC Z E cc nL "OutOrder" fR lR) {i : Nat} (hi : jOB E 0 i) (d : decode cc pc = .ok (.getfield 156, 3)) (h : jJ Z E nL Q (pc + 3) lv (.ref (E.2.2.1 (jr i 6)) :: st) I) : jJ Z E nL Q pc lv (.ref (E.2.2.1 i) :: st) I := j_getRN C jcl_FN hi (k := 6) (by decide) rfl (ref := "OutOrder$FullNet") rfl (List.mem_of_getElem? (i := 45) rfl : Cond.fieldLinkNest "OutOrder" 156 "OutOrder$FullNet" "groups" "[I" "OutOrder" ∈ jnst) d h
theorem cw_OO_97 : jcw "OutOrder" 97 ⟨"OutOrder$Table", "isHeld", "(I)Z"⟩ prog_11_method_4_code 2 (some .boolean) 1 := ⟨w_387, w_384, w_2, ⟨by decide, by decide⟩, by decide +kernel⟩
theorem fp_OO_100 {Z : jZ} {E : jE} {cc : ByteArray} {nL fR lR : Nat} {Q : State → Prop} {pc : Nat} {lv : List (Nat × Value)} {st : List Value} {I : jM} (C : jC Z E cc nL "OutOrder" fR lR) {i : Nat} {v : Int32} (hi : jOB E 8 i) (d : decode cc pc = .ok (.putfield 100, 3)) (h : jJ Z E nL Q (pc + 3) lv st (jwr I i 5 v)) : jJ Z E nL Q pc lv (.int v :: .ref (E.2.2.1 i) :: st) I := j_putN C jcl_TA hi (k := 5) (by decide) rfl (ref := "OutOrder$Table") rfl rfl (List.mem_of_getElem? (i := 18) rfl : Cond.fieldLinkNest "OutOrder" 100 "OutOrder$Table" "held" "I" "OutOrder" ∈ jnst) rfl rfl d h
theorem fg_OO_54 {Z : jZ} {E : jE} {cc : ByteArray} {nL fR lR : Nat} {Q : State → Prop} {pc : Nat} {lv : List (Nat × Value)} {st : List Value} {I : jM} (C : jC Z E cc nL "OutOrder" fR lR) {i : Nat} (hi : jOB E 10 i) (d : decode cc pc = .ok (.getfield 54, 3)) (h : jJ Z E nL Q (pc + 3) lv (.ref (E.2.2.1 (jr i 6)) :: st) I) : jJ Z E nL Q pc lv (.ref (E.2.2.1 i) :: st) I := j_getR C jcl_OO hi (k := 6) (by decide) rfl (ref := "OutOrder") rfl w_318 d h
theorem cw_OO_240 : jcw "OutOrder" 240 ⟨"OutOrder$Work", "canDivide", "(I)Z"⟩ prog_12_method_9_code 3 (some .boolean) 1 := ⟨w_680, w_677, w_10, ⟨by decide, by decide⟩, by decide +kernel⟩
theorem cw_OO_252 : jcw "OutOrder" 252 ⟨"OutOrder$Work", "takeSingle", "(II)V"⟩ prog_12_method_11_code 4 none 2 := ⟨w_696, w_693, w_10, ⟨by decide, by decide⟩, by decide +kernel⟩
theorem cw_OO_246 : jcw "OutOrder" 246 ⟨"OutOrder$Work", "resolve", "(LOutOrder$Table;)V"⟩ prog_12_method_12_code 6 none 1 := ⟨w_688, w_685, w_10, ⟨by decide, by decide⟩, by decide +kernel⟩
theorem fg_OO_249 {Z : jZ} {E : jE} {cc : ByteArray} {nL fR lR : Nat} {Q : State → Prop} {pc : Nat} {lv : List (Nat × Value)} {st : List Value} {I : jM} (C : jC Z E cc nL "OutOrder" fR lR) {i : Nat} (hi : jOB E 9 i) (d : decode cc pc = .ok (.getfield 249, 3)) (h : jJ Z E nL Q (pc + 3) lv (.ref (E.2.2.1 (jr i 3)) :: st) I) : jJ Z E nL Q pc lv (.ref (E.2.2.1 i) :: st) I := j_getRN C jcl_WO hi (k := 3) (by decide) rfl (ref := "OutOrder$Work") rfl (List.mem_of_getElem? (i := 52) rfl : Cond.fieldLinkNest "OutOrder" 249 "OutOrder$Work" "answers" "[I" "OutOrder" ∈ jnst) d h
theorem fg_OO_159 {Z : jZ} {E : jE} {cc : ByteArray} {nL fR lR : Nat} {Q : State → Prop} {pc : Nat} {lv : List (Nat × Value)} {st : List Value} {I : jM} (C : jC Z E cc nL "OutOrder" fR lR) {i : Nat} (hi : jOB E 8 i) (d : decode cc pc = .ok (.getfield 159, 3)) (h : jJ Z E nL Q (pc + 3) lv (.ref (E.2.2.1 (jr i 2)) :: st) I) : jJ Z E nL Q pc lv (.ref (E.2.2.1 i) :: st) I := j_getRN C jcl_TA hi (k := 2) (by decide) rfl (ref := "OutOrder$Table") rfl (List.mem_of_getElem? (i := 9) rfl : Cond.fieldLinkNest "OutOrder" 159 "OutOrder$Table" "joins" "[I" "OutOrder" ∈ jnst) d h
theorem cw_OO_162 : jcw "OutOrder" 162 ⟨"OutOrder$Rings", "shortest", "(I[I)I"⟩ prog_8_method_2_code 6 (some .int) 2 := ⟨w_560, w_558, w_16, ⟨by decide, by decide⟩, by decide +kernel⟩
theorem fg_OO_276 {Z : jZ} {E : jE} {cc : ByteArray} {nL fR lR : Nat} {Q : State → Prop} {pc : Nat} {lv : List (Nat × Value)} {st : List Value} {I : jM} (C : jC Z E cc nL "OutOrder" fR lR) {i : Nat} (hi : jOB E 10 i) (d : decode cc pc = .ok (.getfield 276, 3)) (h : jJ Z E nL Q (pc + 3) lv (.int (I i 10) :: st) I) : jJ Z E nL Q pc lv (.ref (E.2.2.1 i) :: st) I := j_getI C jcl_OO hi (k := 10) (by decide) rfl (ref := "OutOrder") rfl w_322 d h
theorem fg_OO_33 {Z : jZ} {E : jE} {cc : ByteArray} {nL fR lR : Nat} {Q : State → Prop} {pc : Nat} {lv : List (Nat × Value)} {st : List Value} {I : jM} (C : jC Z E cc nL "OutOrder" fR lR) {i : Nat} (hi : jOB E 10 i) (d : decode cc pc = .ok (.getfield 33, 3)) (h : jJ Z E nL Q (pc + 3) lv (.ref (E.2.2.1 (jr i 3)) :: st) I) : jJ Z E nL Q pc lv (.ref (E.2.2.1 i) :: st) I := j_getR C jcl_OO hi (k := 3) (by decide) rfl (ref := "OutOrder") rfl w_315 d h
theorem cw_OO_301 : jcw "OutOrder" 301 ⟨"OutOrder$Least", "reckon", "(LOutOrder$Table;)V"⟩ prog_4_method_2_code 7 none 1 := ⟨w_425, w_422, w_7, ⟨by decide, by decide⟩, by decide +kernel⟩
theorem fp_OO_276 {Z : jZ} {E : jE} {cc : ByteArray} {nL fR lR : Nat} {Q : State → Prop} {pc : Nat} {lv : List (Nat × Value)} {st : List Value} {I : jM} (C : jC Z E cc nL "OutOrder" fR lR) {i : Nat} {v : Int32} (hn : narrow .boolean (.int v) = .int v) (hf : fits .boolean (.int v) = true) (hi : jOB E 10 i) (d : decode cc pc = .ok (.putfield 276, 3)) (h : jJ Z E nL Q (pc + 3) lv st (jwr I i 10 v)) : jJ Z E nL Q pc lv (.int v :: .ref (E.2.2.1 i) :: st) I := j_put C jcl_OO hi (k := 10) (by decide) rfl (ref := "OutOrder") rfl rfl w_322 hn hf d h
theorem fg_OO_172 {Z : jZ} {E : jE} {cc : ByteArray} {nL fR lR : Nat} {Q : State → Prop} {pc : Nat} {lv : List (Nat × Value)} {st : List Value} {I : jM} (C : jC Z E cc nL "OutOrder" fR lR) {i : Nat} (hi : jOB E 2 i) (d : decode cc pc = .ok (.getfield 172, 3)) (h : jJ Z E nL Q (pc + 3) lv (.ref (E.2.2.1 (jr i 0)) :: st) I) : jJ Z E nL Q pc lv (.ref (E.2.2.1 i) :: st) I := j_getRN C jcl_LE hi (k := 0) (by decide) rfl (ref := "OutOrder$Least") rfl (List.mem_of_getElem? (i := 36) rfl : Cond.fieldLinkNest "OutOrder" 172 "OutOrder$Least" "sums" "[I" "OutOrder" ∈ jnst) d h
theorem cw_OO_175 : jcw "OutOrder" 175 ⟨"OutOrder$Table", "pairs", "()I"⟩ prog_11_method_5_code 3 (some .int) 0 := ⟨w_578, w_575, w_2, ⟨by decide, by decide⟩, by decide +kernel⟩
theorem fg_OO_178 {Z : jZ} {E : jE} {cc : ByteArray} {nL fR lR : Nat} {Q : State → Prop} {pc : Nat} {lv : List (Nat × Value)} {st : List Value} {I : jM} (C : jC Z E cc nL "OutOrder" fR lR) {i : Nat} (hi : jOB E 2 i) (d : decode cc pc = .ok (.getfield 178, 3)) (h : jJ Z E nL Q (pc + 3) lv (.ref (E.2.2.1 (jr i 1)) :: st) I) : jJ Z E nL Q pc lv (.ref (E.2.2.1 i) :: st) I := j_getRN C jcl_LE hi (k := 1) (by decide) rfl (ref := "OutOrder$Least") rfl (List.mem_of_getElem? (i := 37) rfl : Cond.fieldLinkNest "OutOrder" 178 "OutOrder$Least" "widths" "[I" "OutOrder" ∈ jnst) d h
theorem fg_OO_86 {Z : jZ} {E : jE} {cc : ByteArray} {nL fR lR : Nat} {Q : State → Prop} {pc : Nat} {lv : List (Nat × Value)} {st : List Value} {I : jM} (C : jC Z E cc nL "OutOrder" fR lR) {i : Nat} (hi : jOB E 8 i) (d : decode cc pc = .ok (.getfield 86, 3)) (h : jJ Z E nL Q (pc + 3) lv (.ref (E.2.2.1 (jr i 1)) :: st) I) : jJ Z E nL Q pc lv (.ref (E.2.2.1 i) :: st) I := j_getRN C jcl_TA hi (k := 1) (by decide) rfl (ref := "OutOrder$Table") rfl (List.mem_of_getElem? (i := 4) rfl : Cond.fieldLinkNest "OutOrder" 86 "OutOrder$Table" "values" "[[I" "OutOrder" ∈ jnst) d h
theorem cw_OO_111 : jcw "OutOrder" 111 ⟨"OutOrder", "orderChanged", "()V"⟩ prog_1_method_35_code 1 none 0 := ⟨w_307, w_304, w_1, ⟨by decide, by decide⟩, by decide +kernel⟩
theorem fg_OO_215 {Z : jZ} {E : jE} {cc : ByteArray} {nL fR lR : Nat} {Q : State → Prop} {pc : Nat} {lv : List (Nat × Value)} {st : List Value} {I : jM} (C : jC Z E cc nL "OutOrder" fR lR) {i : Nat} (hi : jOB E 9 i) (d : decode cc pc = .ok (.getfield 215, 3)) (h : jJ Z E nL Q (pc + 3) lv (.int (I i 4) :: st) I) : jJ Z E nL Q pc lv (.ref (E.2.2.1 i) :: st) I := j_getIN C jcl_WO hi (k := 4) (by decide) rfl (ref := "OutOrder$Work") rfl (List.mem_of_getElem? (i := 53) rfl : Cond.fieldLinkNest "OutOrder" 215 "OutOrder$Work" "worked" "I" "OutOrder" ∈ jnst) d h
theorem cw_OO_224 : jcw "OutOrder" 224 ⟨"OutOrder$Work", "share", "(II)I"⟩ prog_12_method_7_code 3 (some .int) 2 := ⟨w_659, w_656, w_10, ⟨by decide, by decide⟩, by decide +kernel⟩
theorem cw_OO_107 : jcw "OutOrder" 107 ⟨"OutOrder", "arrange", "(I)V"⟩ prog_1_method_36_code 2 none 1 := ⟨w_395, w_392, w_1, ⟨by decide, by decide⟩, by decide +kernel⟩
theorem cw_OO_283 : jcw "OutOrder" 283 ⟨"OutOrder$Work", "forget", "()V"⟩ prog_12_method_2_code 1 none 0 := ⟨w_311, w_308, w_10, ⟨by decide, by decide⟩, by decide +kernel⟩
theorem cw_OO_197 : jcw "OutOrder" 197 ⟨"OutOrder$Going", "sendOut", "(I)V"⟩ prog_3_method_3_code 2 none 1 := ⟨w_593, w_590, w_9, ⟨by decide, by decide⟩, by decide +kernel⟩
theorem fg_OO_218 {Z : jZ} {E : jE} {cc : ByteArray} {nL fR lR : Nat} {Q : State → Prop} {pc : Nat} {lv : List (Nat × Value)} {st : List Value} {I : jM} (C : jC Z E cc nL "OutOrder" fR lR) {i : Nat} (hi : jOB E 9 i) (d : decode cc pc = .ok (.getfield 218, 3)) (h : jJ Z E nL Q (pc + 3) lv (.int (I i 5) :: st) I) : jJ Z E nL Q pc lv (.ref (E.2.2.1 i) :: st) I := j_getIN C jcl_WO hi (k := 5) (by decide) rfl (ref := "OutOrder$Work") rfl (List.mem_of_getElem? (i := 54) rfl : Cond.fieldLinkNest "OutOrder" 218 "OutOrder$Work" "stuckPlace" "I" "OutOrder" ∈ jnst) d h
theorem fg_OO_221 {Z : jZ} {E : jE} {cc : ByteArray} {nL fR lR : Nat} {Q : State → Prop} {pc : Nat} {lv : List (Nat × Value)} {st : List Value} {I : jM} (C : jC Z E cc nL "OutOrder" fR lR) {i : Nat} (hi : jOB E 9 i) (d : decode cc pc = .ok (.getfield 221, 3)) (h : jJ Z E nL Q (pc + 3) lv (.ref (E.2.2.1 (jr i 1)) :: st) I) : jJ Z E nL Q pc lv (.ref (E.2.2.1 i) :: st) I := j_getRN C jcl_WO hi (k := 1) (by decide) rfl (ref := "OutOrder$Work") rfl (List.mem_of_getElem? (i := 51) rfl : Cond.fieldLinkNest "OutOrder" 221 "OutOrder$Work" "pivots" "[I" "OutOrder" ∈ jnst) d h
theorem fg_OO_61 {Z : jZ} {E : jE} {cc : ByteArray} {nL fR lR : Nat} {Q : State → Prop} {pc : Nat} {lv : List (Nat × Value)} {st : List Value} {I : jM} (C : jC Z E cc nL "OutOrder" fR lR) {i : Nat} (hi : jOB E 10 i) (d : decode cc pc = .ok (.getfield 61, 3)) (h : jJ Z E nL Q (pc + 3) lv (.ref (E.2.2.1 (jr i 7)) :: st) I) : jJ Z E nL Q pc lv (.ref (E.2.2.1 i) :: st) I := j_getR C jcl_OO hi (k := 7) (by decide) rfl (ref := "OutOrder") rfl w_319 d h
theorem cw_OO_255 : jcw "OutOrder" 255 ⟨"OutOrder$Plan", "reckon", "(ILOutOrder$Row;LOutOrder$FullNet;)I"⟩ prog_7_method_2_code 10 (some .int) 3 := ⟨w_704, w_701, w_11, ⟨by decide, by decide⟩, by decide +kernel⟩
theorem cw_OO_90 : jcw "OutOrder" 90 ⟨"OutOrder$Table", "set", "(III)V"⟩ prog_11_method_3_code 5 none 3 := ⟨w_368, w_365, w_2, ⟨by decide, by decide⟩, by decide +kernel⟩
theorem cw_OO_94 : jcw "OutOrder" 94 ⟨"OutOrder", "numbersChanged", "()V"⟩ prog_1_method_34_code 1 none 0 := ⟨w_295, w_292, w_1, ⟨by decide, by decide⟩, by decide +kernel⟩
theorem fg_OO_65 {Z : jZ} {E : jE} {cc : ByteArray} {nL fR lR : Nat} {Q : State → Prop} {pc : Nat} {lv : List (Nat × Value)} {st : List Value} {I : jM} (C : jC Z E cc nL "OutOrder" fR lR) {i : Nat} (hi : jOB E 10 i) (d : decode cc pc = .ok (.getfield 65, 3)) (h : jJ Z E nL Q (pc + 3) lv (.ref (E.2.2.1 (jr i 8)) :: st) I) : jJ Z E nL Q pc lv (.ref (E.2.2.1 i) :: st) I := j_getR C jcl_OO hi (k := 8) (by decide) rfl (ref := "OutOrder") rfl w_320 d h
theorem fg_OO_258 {Z : jZ} {E : jE} {cc : ByteArray} {nL fR lR : Nat} {Q : State → Prop} {pc : Nat} {lv : List (Nat × Value)} {st : List Value} {I : jM} (C : jC Z E cc nL "OutOrder" fR lR) {i : Nat} (hi : jOB E 5 i) (d : decode cc pc = .ok (.getfield 258, 3)) (h : jJ Z E nL Q (pc + 3) lv (.ref (E.2.2.1 (jr i 0)) :: st) I) : jJ Z E nL Q pc lv (.ref (E.2.2.1 i) :: st) I := j_getRN C jcl_PL hi (k := 0) (by decide) rfl (ref := "OutOrder$Plan") rfl (List.mem_of_getElem? (i := 55) rfl : Cond.fieldLinkNest "OutOrder" 258 "OutOrder$Plan" "rounds" "[I" "OutOrder" ∈ jnst) d h
theorem fg_OO_230 {Z : jZ} {E : jE} {cc : ByteArray} {nL fR lR : Nat} {Q : State → Prop} {pc : Nat} {lv : List (Nat × Value)} {st : List Value} {I : jM} (C : jC Z E cc nL "OutOrder" fR lR) {i : Nat} (hi : jOB E 8 i) (d : decode cc pc = .ok (.getfield 230, 3)) (h : jJ Z E nL Q (pc + 3) lv (.ref (E.2.2.1 (jr i 3)) :: st) I) : jJ Z E nL Q pc lv (.ref (E.2.2.1 i) :: st) I := j_getRN C jcl_TA hi (k := 3) (by decide) rfl (ref := "OutOrder$Table") rfl (List.mem_of_getElem? (i := 11) rfl : Cond.fieldLinkNest "OutOrder" 230 "OutOrder$Table" "sides" "[I" "OutOrder" ∈ jnst) d h
theorem fg_OO_233 {Z : jZ} {E : jE} {cc : ByteArray} {nL fR lR : Nat} {Q : State → Prop} {pc : Nat} {lv : List (Nat × Value)} {st : List Value} {I : jM} (C : jC Z E cc nL "OutOrder" fR lR) {i : Nat} (hi : jOB E 8 i) (d : decode cc pc = .ok (.getfield 233, 3)) (h : jJ Z E nL Q (pc + 3) lv (.ref (E.2.2.1 (jr i 0)) :: st) I) : jJ Z E nL Q pc lv (.ref (E.2.2.1 i) :: st) I := j_getRN C jcl_TA hi (k := 0) (by decide) rfl (ref := "OutOrder$Table") rfl (List.mem_of_getElem? (i := 3) rfl : Cond.fieldLinkNest "OutOrder" 233 "OutOrder$Table" "modulus" "LOutOrder$Modulus;" "OutOrder" ∈ jnst) d h
theorem cw_OO_237 : jcw "OutOrder" 237 ⟨"OutOrder$Modulus", "reduce", "(I)I"⟩ prog_5_method_3_code 2 (some .int) 1 := ⟨w_372, w_672, w_3, ⟨by decide, by decide⟩, by decide +kernel⟩
theorem cw_OO_243 : jcw "OutOrder" 243 ⟨"OutOrder$Work", "takeSides", "(LOutOrder$Table;LOutOrder$Row;)V"⟩ prog_12_method_10_code 4 none 2 := ⟨w_684, w_681, w_10, ⟨by decide, by decide⟩, by decide +kernel⟩
theorem cw_OO_270 : jcw "OutOrder" 270 ⟨"OutOrder$Table", "clear", "(II)V"⟩ prog_11_method_2_code 5 none 2 := ⟨w_283, w_280, w_2, ⟨by decide, by decide⟩, by decide +kernel⟩
theorem cw_OO_273 : jcw "OutOrder" 273 ⟨"OutOrder$Row", "byNumbers", "(I)V"⟩ prog_9_method_2_code 3 none 1 := ⟨w_287, w_284, w_4, ⟨by decide, by decide⟩, by decide +kernel⟩
theorem fg_OO_261 {Z : jZ} {E : jE} {cc : ByteArray} {nL fR lR : Nat} {Q : State → Prop} {pc : Nat} {lv : List (Nat × Value)} {st : List Value} {I : jM} (C : jC Z E cc nL "OutOrder" fR lR) {i : Nat} (hi : jOB E 3 i) (d : decode cc pc = .ok (.getfield 261, 3)) (h : jJ Z E nL Q (pc + 3) lv (.int (I i 0) :: st) I) : jJ Z E nL Q pc lv (.ref (E.2.2.1 i) :: st) I := j_getIN C jcl_MO hi (k := 0) (by decide) rfl (ref := "OutOrder$Modulus") rfl (List.mem_of_getElem? (i := 1) rfl : Cond.fieldLinkNest "OutOrder" 261 "OutOrder$Modulus" "p" "I" "OutOrder" ∈ jnst) d h
theorem fg_OO_264 {Z : jZ} {E : jE} {cc : ByteArray} {nL fR lR : Nat} {Q : State → Prop} {pc : Nat} {lv : List (Nat × Value)} {st : List Value} {I : jM} (C : jC Z E cc nL "OutOrder" fR lR) {i : Nat} (hi : jOB E 1 i) (d : decode cc pc = .ok (.getfield 264, 3)) (h : jJ Z E nL Q (pc + 3) lv (.int (I i 2) :: st) I) : jJ Z E nL Q pc lv (.ref (E.2.2.1 i) :: st) I := j_getIN C jcl_GO hi (k := 2) (by decide) rfl (ref := "OutOrder$Going") rfl (List.mem_of_getElem? (i := 50) rfl : Cond.fieldLinkNest "OutOrder" 264 "OutOrder$Going" "count" "I" "OutOrder" ∈ jnst) d h
theorem cw_OO_267 : jcw "OutOrder" 267 ⟨"OutOrder$Table", "digest", "()I"⟩ prog_11_method_6_code 4 (some .int) 0 := ⟨w_722, w_719, w_2, ⟨by decide, by decide⟩, by decide +kernel⟩
theorem cw_OO_121 : jcw "OutOrder" 121 ⟨"OutOrder$Row", "exchange", "(II)V"⟩ prog_9_method_4_code 4 none 2 := ⟨w_403, w_528, w_4, ⟨by decide, by decide⟩, by decide +kernel⟩
theorem cw_OO_77 : jcw "OutOrder" 77 ⟨"OutOrder$Modulus", "isPrime", "(I)Z"⟩ prog_5_method_2_code 2 (some .boolean) 1 := ⟨w_356, w_354, w_3, ⟨by decide, by decide⟩, by decide +kernel⟩
theorem cw_OO_69 : jcw "OutOrder" 69 ⟨"OutOrder", "startAnew", "(II)V"⟩ prog_1_method_33_code 3 none 2 := ⟨w_279, w_276, w_1, ⟨by decide, by decide⟩, by decide +kernel⟩
theorem fg_OO_150 {Z : jZ} {E : jE} {cc : ByteArray} {nL fR lR : Nat} {Q : State → Prop} {pc : Nat} {lv : List (Nat × Value)} {st : List Value} {I : jM} (C : jC Z E cc nL "OutOrder" fR lR) {i : Nat} (hi : jOB E 0 i) (d : decode cc pc = .ok (.getfield 150, 3)) (h : jJ Z E nL Q (pc + 3) lv (.int (I i 9) :: st) I) : jJ Z E nL Q pc lv (.ref (E.2.2.1 i) :: st) I := j_getIN C jcl_FN hi (k := 9) (by decide) rfl (ref := "OutOrder$FullNet") rfl (List.mem_of_getElem? (i := 48) rfl : Cond.fieldLinkNest "OutOrder" 150 "OutOrder$FullNet" "widest" "I" "OutOrder" ∈ jnst) d h
theorem cw_OO_211 : jcw "OutOrder" 211 ⟨"OutOrder$Work", "reckon", "(LOutOrder$Table;LOutOrder$Row;)V"⟩ prog_12_method_3_code 4 none 2 := ⟨w_623, w_620, w_10, ⟨by decide, by decide⟩, by decide +kernel⟩
theorem cw_OO_227 : jcw "OutOrder" 227 ⟨"OutOrder$Work", "product", "(LOutOrder$Table;)I"⟩ prog_12_method_8_code 4 (some .int) 1 := ⟨w_667, w_664, w_10, ⟨by decide, by decide⟩, by decide +kernel⟩
theorem fg_FN_48 {Z : jZ} {E : jE} {cc : ByteArray} {nL fR lR : Nat} {Q : State → Prop} {pc : Nat} {lv : List (Nat × Value)} {st : List Value} {I : jM} (C : jC Z E cc nL "OutOrder$FullNet" fR lR) {i : Nat} (hi : jOB E 6 i) (d : decode cc pc = .ok (.getfield 48, 3)) (h : jJ Z E nL Q (pc + 3) lv (.int (I i 2) :: st) I) : jJ Z E nL Q pc lv (.ref (E.2.2.1 i) :: st) I := j_getIN C jcl_RO hi (k := 2) (by decide) rfl (ref := "OutOrder$Row") rfl (List.mem_of_getElem? (i := 25) rfl : Cond.fieldLinkNest "OutOrder$FullNet" 48 "OutOrder$Row" "n" "I" "OutOrder" ∈ jnst) d h
theorem fg_FN_53 {Z : jZ} {E : jE} {cc : ByteArray} {nL fR lR : Nat} {Q : State → Prop} {pc : Nat} {lv : List (Nat × Value)} {st : List Value} {I : jM} (C : jC Z E cc nL "OutOrder$FullNet" fR lR) {i : Nat} (hi : jOB E 6 i) (d : decode cc pc = .ok (.getfield 53, 3)) (h : jJ Z E nL Q (pc + 3) lv (.ref (E.2.2.1 (jr i 0)) :: st) I) : jJ Z E nL Q pc lv (.ref (E.2.2.1 i) :: st) I := j_getRN C jcl_RO hi (k := 0) (by decide) rfl (ref := "OutOrder$Row") rfl (List.mem_of_getElem? (i := 19) rfl : Cond.fieldLinkNest "OutOrder$FullNet" 53 "OutOrder$Row" "unknowns" "[I" "OutOrder" ∈ jnst) d h
theorem fg_FN_90 {Z : jZ} {E : jE} {cc : ByteArray} {nL fR lR : Nat} {Q : State → Prop} {pc : Nat} {lv : List (Nat × Value)} {st : List Value} {I : jM} (C : jC Z E cc nL "OutOrder$FullNet" fR lR) {i : Nat} (hi : jOB E 0 i) (d : decode cc pc = .ok (.getfield 90, 3)) (h : jJ Z E nL Q (pc + 3) lv (.int (I i 8) :: st) I) : jJ Z E nL Q pc lv (.ref (E.2.2.1 i) :: st) I := j_getI C jcl_FN hi (k := 8) (by decide) rfl (ref := "OutOrder$FullNet") rfl w_190 d h
theorem fg_FN_34 {Z : jZ} {E : jE} {cc : ByteArray} {nL fR lR : Nat} {Q : State → Prop} {pc : Nat} {lv : List (Nat × Value)} {st : List Value} {I : jM} (C : jC Z E cc nL "OutOrder$FullNet" fR lR) {i : Nat} (hi : jOB E 0 i) (d : decode cc pc = .ok (.getfield 34, 3)) (h : jJ Z E nL Q (pc + 3) lv (.ref (E.2.2.1 (jr i 6)) :: st) I) : jJ Z E nL Q pc lv (.ref (E.2.2.1 i) :: st) I := j_getR C jcl_FN hi (k := 6) (by decide) rfl (ref := "OutOrder$FullNet") rfl w_186 d h
theorem fp_FN_90 {Z : jZ} {E : jE} {cc : ByteArray} {nL fR lR : Nat} {Q : State → Prop} {pc : Nat} {lv : List (Nat × Value)} {st : List Value} {I : jM} (C : jC Z E cc nL "OutOrder$FullNet" fR lR) {i : Nat} {v : Int32} (hi : jOB E 0 i) (d : decode cc pc = .ok (.putfield 90, 3)) (h : jJ Z E nL Q (pc + 3) lv st (jwr I i 8 v)) : jJ Z E nL Q pc lv (.int v :: .ref (E.2.2.1 i) :: st) I := j_put C jcl_FN hi (k := 8) (by decide) rfl (ref := "OutOrder$FullNet") rfl rfl w_190 rfl rfl d h
theorem fg_FN_22 {Z : jZ} {E : jE} {cc : ByteArray} {nL fR lR : Nat} {Q : State → Prop} {pc : Nat} {lv : List (Nat × Value)} {st : List Value} {I : jM} (C : jC Z E cc nL "OutOrder$FullNet" fR lR) {i : Nat} (hi : jOB E 0 i) (d : decode cc pc = .ok (.getfield 22, 3)) (h : jJ Z E nL Q (pc + 3) lv (.ref (E.2.2.1 (jr i 2)) :: st) I) : jJ Z E nL Q pc lv (.ref (E.2.2.1 i) :: st) I := j_getR C jcl_FN hi (k := 2) (by decide) rfl (ref := "OutOrder$FullNet") rfl w_176 d h
theorem fg_FN_12 {Z : jZ} {E : jE} {cc : ByteArray} {nL fR lR : Nat} {Q : State → Prop} {pc : Nat} {lv : List (Nat × Value)} {st : List Value} {I : jM} (C : jC Z E cc nL "OutOrder$FullNet" fR lR) {i : Nat} (hi : jOB E 0 i) (d : decode cc pc = .ok (.getfield 12, 3)) (h : jJ Z E nL Q (pc + 3) lv (.ref (E.2.2.1 (jr i 0)) :: st) I) : jJ Z E nL Q pc lv (.ref (E.2.2.1 i) :: st) I := j_getR C jcl_FN hi (k := 0) (by decide) rfl (ref := "OutOrder$FullNet") rfl w_173 d h
theorem fg_FN_85 {Z : jZ} {E : jE} {cc : ByteArray} {nL fR lR : Nat} {Q : State → Prop} {pc : Nat} {lv : List (Nat × Value)} {st : List Value} {I : jM} (C : jC Z E cc nL "OutOrder$FullNet" fR lR) {i : Nat} (hi : jOB E 4 i) (d : decode cc pc = .ok (.getfield 85, 3)) (h : jJ Z E nL Q (pc + 3) lv (.int (I i 2) :: st) I) : jJ Z E nL Q pc lv (.ref (E.2.2.1 i) :: st) I := j_getIN C jcl_NE hi (k := 2) (by decide) rfl (ref := "OutOrder$Net") rfl (List.mem_of_getElem? (i := 33) rfl : Cond.fieldLinkNest "OutOrder$FullNet" 85 "OutOrder$Net" "n" "I" "OutOrder" ∈ jnst) d h
theorem fg_FN_56 {Z : jZ} {E : jE} {cc : ByteArray} {nL fR lR : Nat} {Q : State → Prop} {pc : Nat} {lv : List (Nat × Value)} {st : List Value} {I : jM} (C : jC Z E cc nL "OutOrder$FullNet" fR lR) {i : Nat} (hi : jOB E 4 i) (d : decode cc pc = .ok (.getfield 56, 3)) (h : jJ Z E nL Q (pc + 3) lv (.ref (E.2.2.1 (jr i 0)) :: st) I) : jJ Z E nL Q pc lv (.ref (E.2.2.1 i) :: st) I := j_getRN C jcl_NE hi (k := 0) (by decide) rfl (ref := "OutOrder$Net") rfl (List.mem_of_getElem? (i := 26) rfl : Cond.fieldLinkNest "OutOrder$FullNet" 56 "OutOrder$Net" "near" "[I" "OutOrder" ∈ jnst) d h
theorem fg_FN_41 {Z : jZ} {E : jE} {cc : ByteArray} {nL fR lR : Nat} {Q : State → Prop} {pc : Nat} {lv : List (Nat × Value)} {st : List Value} {I : jM} (C : jC Z E cc nL "OutOrder$FullNet" fR lR) {i : Nat} (hi : jOB E 0 i) (d : decode cc pc = .ok (.getfield 41, 3)) (h : jJ Z E nL Q (pc + 3) lv (.int (I i 7) :: st) I) : jJ Z E nL Q pc lv (.ref (E.2.2.1 i) :: st) I := j_getI C jcl_FN hi (k := 7) (by decide) rfl (ref := "OutOrder$FullNet") rfl w_188 d h
theorem fg_FN_18 {Z : jZ} {E : jE} {cc : ByteArray} {nL fR lR : Nat} {Q : State → Prop} {pc : Nat} {lv : List (Nat × Value)} {st : List Value} {I : jM} (C : jC Z E cc nL "OutOrder$FullNet" fR lR) {i : Nat} (hi : jOB E 0 i) (d : decode cc pc = .ok (.getfield 18, 3)) (h : jJ Z E nL Q (pc + 3) lv (.ref (E.2.2.1 (jr i 1)) :: st) I) : jJ Z E nL Q pc lv (.ref (E.2.2.1 i) :: st) I := j_getR C jcl_FN hi (k := 1) (by decide) rfl (ref := "OutOrder$FullNet") rfl w_174 d h
theorem fp_FN_41 {Z : jZ} {E : jE} {cc : ByteArray} {nL fR lR : Nat} {Q : State → Prop} {pc : Nat} {lv : List (Nat × Value)} {st : List Value} {I : jM} (C : jC Z E cc nL "OutOrder$FullNet" fR lR) {i : Nat} {v : Int32} (hi : jOB E 0 i) (d : decode cc pc = .ok (.putfield 41, 3)) (h : jJ Z E nL Q (pc + 3) lv st (jwr I i 7 v)) : jJ Z E nL Q pc lv (.int v :: .ref (E.2.2.1 i) :: st) I := j_put C jcl_FN hi (k := 7) (by decide) rfl (ref := "OutOrder$FullNet") rfl rfl w_188 rfl rfl d h
theorem cw_FN_93 : jcw "OutOrder$FullNet" 93 ⟨"OutOrder$FullNet", "isWithinAnother", "(II)Z"⟩ prog_2_method_7_code 5 (some .boolean) 2 := ⟨w_519, w_516, w_8, ⟨by decide, by decide⟩, by decide +kernel⟩
theorem cw_FN_97 : jcw "OutOrder$FullNet" 97 ⟨"OutOrder$FullNet", "insertGroup", "(I)V"⟩ prog_2_method_8_code 3 none 1 := ⟨w_523, w_520, w_8, ⟨by decide, by decide⟩, by decide +kernel⟩
theorem fg_FN_31 {Z : jZ} {E : jE} {cc : ByteArray} {nL fR lR : Nat} {Q : State → Prop} {pc : Nat} {lv : List (Nat × Value)} {st : List Value} {I : jM} (C : jC Z E cc nL "OutOrder$FullNet" fR lR) {i : Nat} (hi : jOB E 0 i) (d : decode cc pc = .ok (.getfield 31, 3)) (h : jJ Z E nL Q (pc + 3) lv (.ref (E.2.2.1 (jr i 5)) :: st) I) : jJ Z E nL Q pc lv (.ref (E.2.2.1 i) :: st) I := j_getR C jcl_FN hi (k := 5) (by decide) rfl (ref := "OutOrder$FullNet") rfl w_183 d h
theorem cw_FN_86 : jcw "OutOrder$FullNet" 86 ⟨"OutOrder$FullNet", "firstOf", "(ILOutOrder$Row;)I"⟩ prog_2_method_5_code 3 (some .int) 2 := ⟨w_511, w_509, w_8, ⟨by decide, by decide⟩, by decide +kernel⟩
theorem fg_FN_25 {Z : jZ} {E : jE} {cc : ByteArray} {nL fR lR : Nat} {Q : State → Prop} {pc : Nat} {lv : List (Nat × Value)} {st : List Value} {I : jM} (C : jC Z E cc nL "OutOrder$FullNet" fR lR) {i : Nat} (hi : jOB E 0 i) (d : decode cc pc = .ok (.getfield 25, 3)) (h : jJ Z E nL Q (pc + 3) lv (.ref (E.2.2.1 (jr i 3)) :: st) I) : jJ Z E nL Q pc lv (.ref (E.2.2.1 i) :: st) I := j_getR C jcl_FN hi (k := 3) (by decide) rfl (ref := "OutOrder$FullNet") rfl w_178 d h
theorem fg_FN_28 {Z : jZ} {E : jE} {cc : ByteArray} {nL fR lR : Nat} {Q : State → Prop} {pc : Nat} {lv : List (Nat × Value)} {st : List Value} {I : jM} (C : jC Z E cc nL "OutOrder$FullNet" fR lR) {i : Nat} (hi : jOB E 0 i) (d : decode cc pc = .ok (.getfield 28, 3)) (h : jJ Z E nL Q (pc + 3) lv (.ref (E.2.2.1 (jr i 4)) :: st) I) : jJ Z E nL Q pc lv (.ref (E.2.2.1 i) :: st) I := j_getR C jcl_FN hi (k := 4) (by decide) rfl (ref := "OutOrder$FullNet") rfl w_180 d h
theorem cw_FN_37 : jcw "OutOrder$FullNet" 37 ⟨"OutOrder$Net", "take", "(LOutOrder$Table;)V"⟩ prog_6_method_2_code 3 none 1 := ⟨w_303, w_497, w_6, ⟨by decide, by decide⟩, by decide +kernel⟩
theorem fp_FN_45 {Z : jZ} {E : jE} {cc : ByteArray} {nL fR lR : Nat} {Q : State → Prop} {pc : Nat} {lv : List (Nat × Value)} {st : List Value} {I : jM} (C : jC Z E cc nL "OutOrder$FullNet" fR lR) {i : Nat} {v : Int32} (hi : jOB E 0 i) (d : decode cc pc = .ok (.putfield 45, 3)) (h : jJ Z E nL Q (pc + 3) lv st (jwr I i 9 v)) : jJ Z E nL Q pc lv (.int v :: .ref (E.2.2.1 i) :: st) I := j_put C jcl_FN hi (k := 9) (by decide) rfl (ref := "OutOrder$FullNet") rfl rfl w_192 rfl rfl d h
theorem fg_FN_45 {Z : jZ} {E : jE} {cc : ByteArray} {nL fR lR : Nat} {Q : State → Prop} {pc : Nat} {lv : List (Nat × Value)} {st : List Value} {I : jM} (C : jC Z E cc nL "OutOrder$FullNet" fR lR) {i : Nat} (hi : jOB E 0 i) (d : decode cc pc = .ok (.getfield 45, 3)) (h : jJ Z E nL Q (pc + 3) lv (.int (I i 9) :: st) I) : jJ Z E nL Q pc lv (.ref (E.2.2.1 i) :: st) I := j_getI C jcl_FN hi (k := 9) (by decide) rfl (ref := "OutOrder$FullNet") rfl w_192 d h
theorem cw_FN_59 : jcw "OutOrder$FullNet" 59 ⟨"java/lang/Integer", "bitCount", "(I)I"⟩ prog_15_method_49_code 1 (some .int) 1 := ⟨w_413, w_498, w_14, ⟨by decide, by decide⟩, by decide +kernel⟩
theorem cw_FN_65 : jcw "OutOrder$FullNet" 65 ⟨"java/lang/Math", "max", "(II)I"⟩ prog_16_method_65_code 2 (some .int) 2 := ⟨w_446, w_499, w_13, ⟨by decide, by decide⟩, by decide +kernel⟩
theorem cw_FN_71 : jcw "OutOrder$FullNet" 71 ⟨"OutOrder$FullNet", "listFills", "(I)V"⟩ prog_2_method_3_code 5 none 1 := ⟨w_503, w_500, w_8, ⟨by decide, by decide⟩, by decide +kernel⟩
theorem cw_FN_75 : jcw "OutOrder$FullNet" 75 ⟨"OutOrder$Net", "remove", "(I)V"⟩ prog_6_method_5_code 2 none 1 := ⟨w_468, w_504, w_6, ⟨by decide, by decide⟩, by decide +kernel⟩
theorem cw_FN_78 : jcw "OutOrder$FullNet" 78 ⟨"OutOrder$FullNet", "makeTree", "(LOutOrder$Row;)V"⟩ prog_2_method_4_code 5 none 1 := ⟨w_508, w_505, w_8, ⟨by decide, by decide⟩, by decide +kernel⟩
theorem cw_FN_82 : jcw "OutOrder$FullNet" 82 ⟨"OutOrder$FullNet", "makeGroups", "(I)V"⟩ prog_2_method_6_code 3 none 1 := ⟨w_515, w_512, w_8, ⟨by decide, by decide⟩, by decide +kernel⟩
theorem fg_GO_12 {Z : jZ} {E : jE} {cc : ByteArray} {nL fR lR : Nat} {Q : State → Prop} {pc : Nat} {lv : List (Nat × Value)} {st : List Value} {I : jM} (C : jC Z E cc nL "OutOrder$Going" fR lR) {i : Nat} (hi : jOB E 1 i) (d : decode cc pc = .ok (.getfield 12, 3)) (h : jJ Z E nL Q (pc + 3) lv (.ref (E.2.2.1 (jr i 0)) :: st) I) : jJ Z E nL Q pc lv (.ref (E.2.2.1 i) :: st) I := j_getR C jcl_GO hi (k := 0) (by decide) rfl (ref := "OutOrder$Going") rfl w_223 d h
theorem fg_GO_37 {Z : jZ} {E : jE} {cc : ByteArray} {nL fR lR : Nat} {Q : State → Prop} {pc : Nat} {lv : List (Nat × Value)} {st : List Value} {I : jM} (C : jC Z E cc nL "OutOrder$Going" fR lR) {i : Nat} (hi : jOB E 4 i) (d : decode cc pc = .ok (.getfield 37, 3)) (h : jJ Z E nL Q (pc + 3) lv (.ref (E.2.2.1 (jr i 0)) :: st) I) : jJ Z E nL Q pc lv (.ref (E.2.2.1 i) :: st) I := j_getRN C jcl_NE hi (k := 0) (by decide) rfl (ref := "OutOrder$Net") rfl (List.mem_of_getElem? (i := 28) rfl : Cond.fieldLinkNest "OutOrder$Going" 37 "OutOrder$Net" "near" "[I" "OutOrder" ∈ jnst) d h
theorem fg_GO_34 {Z : jZ} {E : jE} {cc : ByteArray} {nL fR lR : Nat} {Q : State → Prop} {pc : Nat} {lv : List (Nat × Value)} {st : List Value} {I : jM} (C : jC Z E cc nL "OutOrder$Going" fR lR) {i : Nat} (hi : jOB E 4 i) (d : decode cc pc = .ok (.getfield 34, 3)) (h : jJ Z E nL Q (pc + 3) lv (.int (I i 1) :: st) I) : jJ Z E nL Q pc lv (.ref (E.2.2.1 i) :: st) I := j_getIN C jcl_NE hi (k := 1) (by decide) rfl (ref := "OutOrder$Net") rfl (List.mem_of_getElem? (i := 32) rfl : Cond.fieldLinkNest "OutOrder$Going" 34 "OutOrder$Net" "left" "I" "OutOrder" ∈ jnst) d h
theorem cw_GO_40 : jcw "OutOrder$Going" 40 ⟨"OutOrder$Going", "isTwin", "(I)Z"⟩ prog_3_method_6_code 5 (some .boolean) 1 := ⟨w_606, w_603, w_9, ⟨by decide, by decide⟩, by decide +kernel⟩
theorem cw_GO_44 : jcw "OutOrder$Going" 44 ⟨"OutOrder$Net", "missing", "(I)I"⟩ prog_6_method_4_code 5 (some .int) 1 := ⟨w_486, w_607, w_6, ⟨by decide, by decide⟩, by decide +kernel⟩
theorem cw_GO_22 : jcw "OutOrder$Going" 22 ⟨"OutOrder$Net", "take", "(LOutOrder$Table;)V"⟩ prog_6_method_2_code 3 none 1 := ⟨w_303, w_300, w_6, ⟨by decide, by decide⟩, by decide +kernel⟩
theorem fp_GO_26 {Z : jZ} {E : jE} {cc : ByteArray} {nL fR lR : Nat} {Q : State → Prop} {pc : Nat} {lv : List (Nat × Value)} {st : List Value} {I : jM} (C : jC Z E cc nL "OutOrder$Going" fR lR) {i : Nat} {v : Int32} (hi : jOB E 1 i) (d : decode cc pc = .ok (.putfield 26, 3)) (h : jJ Z E nL Q (pc + 3) lv st (jwr I i 2 v)) : jJ Z E nL Q pc lv (.int v :: .ref (E.2.2.1 i) :: st) I := j_put C jcl_GO hi (k := 2) (by decide) rfl (ref := "OutOrder$Going") rfl rfl w_226 rfl rfl d h
theorem fg_GO_26 {Z : jZ} {E : jE} {cc : ByteArray} {nL fR lR : Nat} {Q : State → Prop} {pc : Nat} {lv : List (Nat × Value)} {st : List Value} {I : jM} (C : jC Z E cc nL "OutOrder$Going" fR lR) {i : Nat} (hi : jOB E 1 i) (d : decode cc pc = .ok (.getfield 26, 3)) (h : jJ Z E nL Q (pc + 3) lv (.int (I i 2) :: st) I) : jJ Z E nL Q pc lv (.ref (E.2.2.1 i) :: st) I := j_getI C jcl_GO hi (k := 2) (by decide) rfl (ref := "OutOrder$Going") rfl w_226 d h
theorem fg_GO_18 {Z : jZ} {E : jE} {cc : ByteArray} {nL fR lR : Nat} {Q : State → Prop} {pc : Nat} {lv : List (Nat × Value)} {st : List Value} {I : jM} (C : jC Z E cc nL "OutOrder$Going" fR lR) {i : Nat} (hi : jOB E 1 i) (d : decode cc pc = .ok (.getfield 18, 3)) (h : jJ Z E nL Q (pc + 3) lv (.ref (E.2.2.1 (jr i 1)) :: st) I) : jJ Z E nL Q pc lv (.ref (E.2.2.1 i) :: st) I := j_getR C jcl_GO hi (k := 1) (by decide) rfl (ref := "OutOrder$Going") rfl w_225 d h
theorem cw_GO_30 : jcw "OutOrder$Going" 30 ⟨"OutOrder$Net", "remove", "(I)V"⟩ prog_6_method_5_code 2 none 1 := ⟨w_468, w_594, w_6, ⟨by decide, by decide⟩, by decide +kernel⟩
theorem fg_LE_26 {Z : jZ} {E : jE} {cc : ByteArray} {nL fR lR : Nat} {Q : State → Prop} {pc : Nat} {lv : List (Nat × Value)} {st : List Value} {I : jM} (C : jC Z E cc nL "OutOrder$Least" fR lR) {i : Nat} (hi : jOB E 2 i) (d : decode cc pc = .ok (.getfield 26, 3)) (h : jJ Z E nL Q (pc + 3) lv (.ref (E.2.2.1 (jr i 3)) :: st) I) : jJ Z E nL Q pc lv (.ref (E.2.2.1 i) :: st) I := j_getR C jcl_LE hi (k := 3) (by decide) rfl (ref := "OutOrder$Least") rfl w_155 d h
theorem fg_LE_89 {Z : jZ} {E : jE} {cc : ByteArray} {nL fR lR : Nat} {Q : State → Prop} {pc : Nat} {lv : List (Nat × Value)} {st : List Value} {I : jM} (C : jC Z E cc nL "OutOrder$Least" fR lR) {i : Nat} (hi : jOB E 4 i) (d : decode cc pc = .ok (.getfield 89, 3)) (h : jJ Z E nL Q (pc + 3) lv (.int (I i 2) :: st) I) : jJ Z E nL Q pc lv (.ref (E.2.2.1 i) :: st) I := j_getIN C jcl_NE hi (k := 2) (by decide) rfl (ref := "OutOrder$Net") rfl (List.mem_of_getElem? (i := 35) rfl : Cond.fieldLinkNest "OutOrder$Least" 89 "OutOrder$Net" "n" "I" "OutOrder" ∈ jnst) d h
theorem cw_LE_90 : jcw "OutOrder$Least" 90 ⟨"OutOrder$Net", "has", "(I)Z"⟩ prog_6_method_3_code 2 (some .boolean) 1 := ⟨w_459, w_456, w_6, ⟨by decide, by decide⟩, by decide +kernel⟩
theorem cw_LE_94 : jcw "OutOrder$Least" 94 ⟨"OutOrder$Least", "isGood", "(IIZ)Z"⟩ prog_4_method_7_code 6 (some .boolean) 3 := ⟨w_463, w_460, w_7, ⟨by decide, by decide⟩, by decide +kernel⟩
theorem fg_LE_98 {Z : jZ} {E : jE} {cc : ByteArray} {nL fR lR : Nat} {Q : State → Prop} {pc : Nat} {lv : List (Nat × Value)} {st : List Value} {I : jM} (C : jC Z E cc nL "OutOrder$Least" fR lR) {i : Nat} (hi : jOB E 4 i) (d : decode cc pc = .ok (.getfield 98, 3)) (h : jJ Z E nL Q (pc + 3) lv (.ref (E.2.2.1 (jr i 0)) :: st) I) : jJ Z E nL Q pc lv (.ref (E.2.2.1 i) :: st) I := j_getRN C jcl_NE hi (k := 0) (by decide) rfl (ref := "OutOrder$Net") rfl (List.mem_of_getElem? (i := 29) rfl : Cond.fieldLinkNest "OutOrder$Least" 98 "OutOrder$Net" "near" "[I" "OutOrder" ∈ jnst) d h
theorem cw_LE_57 : jcw "OutOrder$Least" 57 ⟨"java/lang/Integer", "bitCount", "(I)I"⟩ prog_15_method_49_code 1 (some .int) 1 := ⟨w_413, w_440, w_14, ⟨by decide, by decide⟩, by decide +kernel⟩
theorem fg_LE_15 {Z : jZ} {E : jE} {cc : ByteArray} {nL fR lR : Nat} {Q : State → Prop} {pc : Nat} {lv : List (Nat × Value)} {st : List Value} {I : jM} (C : jC Z E cc nL "OutOrder$Least" fR lR) {i : Nat} (hi : jOB E 2 i) (d : decode cc pc = .ok (.getfield 15, 3)) (h : jJ Z E nL Q (pc + 3) lv (.ref (E.2.2.1 (jr i 1)) :: st) I) : jJ Z E nL Q pc lv (.ref (E.2.2.1 i) :: st) I := j_getR C jcl_LE hi (k := 1) (by decide) rfl (ref := "OutOrder$Least") rfl w_152 d h
theorem cw_LE_69 : jcw "OutOrder$Least" 69 ⟨"java/lang/Math", "max", "(II)I"⟩ prog_16_method_65_code 2 (some .int) 2 := ⟨w_446, w_444, w_13, ⟨by decide, by decide⟩, by decide +kernel⟩
theorem fg_LE_9 {Z : jZ} {E : jE} {cc : ByteArray} {nL fR lR : Nat} {Q : State → Prop} {pc : Nat} {lv : List (Nat × Value)} {st : List Value} {I : jM} (C : jC Z E cc nL "OutOrder$Least" fR lR) {i : Nat} (hi : jOB E 2 i) (d : decode cc pc = .ok (.getfield 9, 3)) (h : jJ Z E nL Q (pc + 3) lv (.ref (E.2.2.1 (jr i 0)) :: st) I) : jJ Z E nL Q pc lv (.ref (E.2.2.1 i) :: st) I := j_getR C jcl_LE hi (k := 0) (by decide) rfl (ref := "OutOrder$Least") rfl w_150 d h
theorem fg_LE_20 {Z : jZ} {E : jE} {cc : ByteArray} {nL fR lR : Nat} {Q : State → Prop} {pc : Nat} {lv : List (Nat × Value)} {st : List Value} {I : jM} (C : jC Z E cc nL "OutOrder$Least" fR lR) {i : Nat} (hi : jOB E 2 i) (d : decode cc pc = .ok (.getfield 20, 3)) (h : jJ Z E nL Q (pc + 3) lv (.ref (E.2.2.1 (jr i 2)) :: st) I) : jJ Z E nL Q pc lv (.ref (E.2.2.1 i) :: st) I := j_getR C jcl_LE hi (k := 2) (by decide) rfl (ref := "OutOrder$Least") rfl w_154 d h
theorem cw_LE_47 : jcw "OutOrder$Least" 47 ⟨"OutOrder$Net", "copyWithout", "(I[I[II)V"⟩ prog_6_method_6_code 7 none 4 := ⟨w_432, w_430, w_6, ⟨by decide, by decide⟩, by decide +kernel⟩
theorem fg_LE_30 {Z : jZ} {E : jE} {cc : ByteArray} {nL fR lR : Nat} {Q : State → Prop} {pc : Nat} {lv : List (Nat × Value)} {st : List Value} {I : jM} (C : jC Z E cc nL "OutOrder$Least" fR lR) {i : Nat} (hi : jOB E 8 i) (d : decode cc pc = .ok (.getfield 30, 3)) (h : jJ Z E nL Q (pc + 3) lv (.int (I i 4) :: st) I) : jJ Z E nL Q pc lv (.ref (E.2.2.1 i) :: st) I := j_getIN C jcl_TA hi (k := 4) (by decide) rfl (ref := "OutOrder$Table") rfl (List.mem_of_getElem? (i := 12) rfl : Cond.fieldLinkNest "OutOrder$Least" 30 "OutOrder$Table" "n" "I" "OutOrder" ∈ jnst) d h
theorem fg_LE_36 {Z : jZ} {E : jE} {cc : ByteArray} {nL fR lR : Nat} {Q : State → Prop} {pc : Nat} {lv : List (Nat × Value)} {st : List Value} {I : jM} (C : jC Z E cc nL "OutOrder$Least" fR lR) {i : Nat} (hi : jOB E 8 i) (d : decode cc pc = .ok (.getfield 36, 3)) (h : jJ Z E nL Q (pc + 3) lv (.ref (E.2.2.1 (jr i 2)) :: st) I) : jJ Z E nL Q pc lv (.ref (E.2.2.1 i) :: st) I := j_getRN C jcl_TA hi (k := 2) (by decide) rfl (ref := "OutOrder$Table") rfl (List.mem_of_getElem? (i := 6) rfl : Cond.fieldLinkNest "OutOrder$Least" 36 "OutOrder$Table" "joins" "[I" "OutOrder" ∈ jnst) d h
theorem cw_LE_39 : jcw "OutOrder$Least" 39 ⟨"OutOrder$Least", "makeNet", "(III)V"⟩ prog_4_method_3_code 4 none 3 := ⟨w_429, w_426, w_7, ⟨by decide, by decide⟩, by decide +kernel⟩
theorem cw_LE_43 : jcw "OutOrder$Least" 43 ⟨"OutOrder$Least", "weigh", "(II)V"⟩ prog_4_method_4_code 8 none 2 := ⟨w_439, w_436, w_7, ⟨by decide, by decide⟩, by decide +kernel⟩
theorem cw_LE_72 : jcw "OutOrder$Least" 72 ⟨"OutOrder$Net", "take", "(LOutOrder$Table;)V"⟩ prog_6_method_2_code 3 none 1 := ⟨w_303, w_451, w_6, ⟨by decide, by decide⟩, by decide +kernel⟩
theorem cw_LE_76 : jcw "OutOrder$Least" 76 ⟨"OutOrder$Least", "firstGood", "(IZ)I"⟩ prog_4_method_6_code 4 (some .int) 2 := ⟨w_455, w_452, w_7, ⟨by decide, by decide⟩, by decide +kernel⟩
theorem cw_LE_80 : jcw "OutOrder$Least" 80 ⟨"OutOrder$Row", "set", "(II)V"⟩ prog_9_method_3_code 3 none 2 := ⟨w_291, w_464, w_4, ⟨by decide, by decide⟩, by decide +kernel⟩
theorem cw_LE_85 : jcw "OutOrder$Least" 85 ⟨"OutOrder$Net", "remove", "(I)V"⟩ prog_6_method_5_code 2 none 1 := ⟨w_468, w_465, w_6, ⟨by decide, by decide⟩, by decide +kernel⟩
theorem cw_LE_63 : jcw "OutOrder$Least" 63 ⟨"java/lang/Math", "min", "(II)I"⟩ prog_16_method_69_code 2 (some .int) 2 := ⟨w_443, w_441, w_13, ⟨by decide, by decide⟩, by decide +kernel⟩
theorem fg_MO_9 {Z : jZ} {E : jE} {cc : ByteArray} {nL fR lR : Nat} {Q : State → Prop} {pc : Nat} {lv : List (Nat × Value)} {st : List Value} {I : jM} (C : jC Z E cc nL "OutOrder$Modulus" fR lR) {i : Nat} (hi : jOB E 3 i) (d : decode cc pc = .ok (.getfield 9, 3)) (h : jJ Z E nL Q (pc + 3) lv (.int (I i 0) :: st) I) : jJ Z E nL Q pc lv (.ref (E.2.2.1 i) :: st) I := j_getI C jcl_MO hi (k := 0) (by decide) rfl (ref := "OutOrder$Modulus") rfl w_37 d h
theorem cw_MO_25 : jcw "OutOrder$Modulus" 25 ⟨"OutOrder$Modulus", "times", "(II)I"⟩ prog_5_method_4_code 3 (some .int) 2 := ⟨w_636, w_633, w_3, ⟨by decide, by decide⟩, by decide +kernel⟩
theorem cw_MO_15 : jcw "OutOrder$Modulus" 15 ⟨"java/lang/Math", "floorMod", "(II)I"⟩ prog_16_method_50_code 3 (some .int) 2 := ⟨w_375, w_373, w_13, ⟨by decide, by decide⟩, by decide +kernel⟩
theorem cw_MO_21 : jcw "OutOrder$Modulus" 21 ⟨"OutOrder$Modulus", "reduce", "(I)I"⟩ prog_5_method_3_code 2 (some .int) 1 := ⟨w_372, w_637, w_3, ⟨by decide, by decide⟩, by decide +kernel⟩
theorem fg_NE_22 {Z : jZ} {E : jE} {cc : ByteArray} {nL fR lR : Nat} {Q : State → Prop} {pc : Nat} {lv : List (Nat × Value)} {st : List Value} {I : jM} (C : jC Z E cc nL "OutOrder$Net" fR lR) {i : Nat} (hi : jOB E 4 i) (d : decode cc pc = .ok (.getfield 22, 3)) (h : jJ Z E nL Q (pc + 3) lv (.int (I i 1) :: st) I) : jJ Z E nL Q pc lv (.ref (E.2.2.1 i) :: st) I := j_getI C jcl_NE hi (k := 1) (by decide) rfl (ref := "OutOrder$Net") rfl w_123 d h
theorem fg_NE_9 {Z : jZ} {E : jE} {cc : ByteArray} {nL fR lR : Nat} {Q : State → Prop} {pc : Nat} {lv : List (Nat × Value)} {st : List Value} {I : jM} (C : jC Z E cc nL "OutOrder$Net" fR lR) {i : Nat} (hi : jOB E 4 i) (d : decode cc pc = .ok (.getfield 9, 3)) (h : jJ Z E nL Q (pc + 3) lv (.ref (E.2.2.1 (jr i 0)) :: st) I) : jJ Z E nL Q pc lv (.ref (E.2.2.1 i) :: st) I := j_getR C jcl_NE hi (k := 0) (by decide) rfl (ref := "OutOrder$Net") rfl w_117 d h
theorem fg_NE_15 {Z : jZ} {E : jE} {cc : ByteArray} {nL fR lR : Nat} {Q : State → Prop} {pc : Nat} {lv : List (Nat × Value)} {st : List Value} {I : jM} (C : jC Z E cc nL "OutOrder$Net" fR lR) {i : Nat} (hi : jOB E 4 i) (d : decode cc pc = .ok (.getfield 15, 3)) (h : jJ Z E nL Q (pc + 3) lv (.int (I i 2) :: st) I) : jJ Z E nL Q pc lv (.ref (E.2.2.1 i) :: st) I := j_getI C jcl_NE hi (k := 2) (by decide) rfl (ref := "OutOrder$Net") rfl w_126 d h
theorem cw_NE_28 : jcw "OutOrder$Net" 28 ⟨"java/lang/Integer", "bitCount", "(I)I"⟩ prog_15_method_49_code 1 (some .int) 1 := ⟨w_413, w_487, w_14, ⟨by decide, by decide⟩, by decide +kernel⟩
theorem fp_NE_22 {Z : jZ} {E : jE} {cc : ByteArray} {nL fR lR : Nat} {Q : State → Prop} {pc : Nat} {lv : List (Nat × Value)} {st : List Value} {I : jM} (C : jC Z E cc nL "OutOrder$Net" fR lR) {i : Nat} {v : Int32} (hi : jOB E 4 i) (d : decode cc pc = .ok (.putfield 22, 3)) (h : jJ Z E nL Q (pc + 3) lv st (jwr I i 1 v)) : jJ Z E nL Q pc lv (.int v :: .ref (E.2.2.1 i) :: st) I := j_put C jcl_NE hi (k := 1) (by decide) rfl (ref := "OutOrder$Net") rfl rfl w_123 rfl rfl d h
theorem cw_NE_34 : jcw "OutOrder$Net" 34 ⟨"OutOrder$Net", "copyWithout", "(I[I[II)V"⟩ prog_6_method_6_code 7 none 4 := ⟨w_432, w_469, w_6, ⟨by decide, by decide⟩, by decide +kernel⟩
theorem fg_NE_19 {Z : jZ} {E : jE} {cc : ByteArray} {nL fR lR : Nat} {Q : State → Prop} {pc : Nat} {lv : List (Nat × Value)} {st : List Value} {I : jM} (C : jC Z E cc nL "OutOrder$Net" fR lR) {i : Nat} (hi : jOB E 8 i) (d : decode cc pc = .ok (.getfield 19, 3)) (h : jJ Z E nL Q (pc + 3) lv (.int (I i 4) :: st) I) : jJ Z E nL Q pc lv (.ref (E.2.2.1 i) :: st) I := j_getIN C jcl_TA hi (k := 4) (by decide) rfl (ref := "OutOrder$Table") rfl (List.mem_of_getElem? (i := 13) rfl : Cond.fieldLinkNest "OutOrder$Net" 19 "OutOrder$Table" "n" "I" "OutOrder" ∈ jnst) d h
theorem fp_NE_15 {Z : jZ} {E : jE} {cc : ByteArray} {nL fR lR : Nat} {Q : State → Prop} {pc : Nat} {lv : List (Nat × Value)} {st : List Value} {I : jM} (C : jC Z E cc nL "OutOrder$Net" fR lR) {i : Nat} {v : Int32} (hi : jOB E 4 i) (d : decode cc pc = .ok (.putfield 15, 3)) (h : jJ Z E nL Q (pc + 3) lv st (jwr I i 2 v)) : jJ Z E nL Q pc lv (.int v :: .ref (E.2.2.1 i) :: st) I := j_put C jcl_NE hi (k := 2) (by decide) rfl (ref := "OutOrder$Net") rfl rfl w_126 rfl rfl d h
theorem fg_NE_25 {Z : jZ} {E : jE} {cc : ByteArray} {nL fR lR : Nat} {Q : State → Prop} {pc : Nat} {lv : List (Nat × Value)} {st : List Value} {I : jM} (C : jC Z E cc nL "OutOrder$Net" fR lR) {i : Nat} (hi : jOB E 8 i) (d : decode cc pc = .ok (.getfield 25, 3)) (h : jJ Z E nL Q (pc + 3) lv (.ref (E.2.2.1 (jr i 2)) :: st) I) : jJ Z E nL Q pc lv (.ref (E.2.2.1 i) :: st) I := j_getRN C jcl_TA hi (k := 2) (by decide) rfl (ref := "OutOrder$Table") rfl (List.mem_of_getElem? (i := 7) rfl : Cond.fieldLinkNest "OutOrder$Net" 25 "OutOrder$Table" "joins" "[I" "OutOrder" ∈ jnst) d h
theorem fg_PL_29 {Z : jZ} {E : jE} {cc : ByteArray} {nL fR lR : Nat} {Q : State → Prop} {pc : Nat} {lv : List (Nat × Value)} {st : List Value} {I : jM} (C : jC Z E cc nL "OutOrder$Plan" fR lR) {i : Nat} (hi : jOB E 0 i) (d : decode cc pc = .ok (.getfield 29, 3)) (h : jJ Z E nL Q (pc + 3) lv (.ref (E.2.2.1 (jr i 5)) :: st) I) : jJ Z E nL Q pc lv (.ref (E.2.2.1 i) :: st) I := j_getRN C jcl_FN hi (k := 5) (by decide) rfl (ref := "OutOrder$FullNet") rfl (List.mem_of_getElem? (i := 43) rfl : Cond.fieldLinkNest "OutOrder$Plan" 29 "OutOrder$FullNet" "children" "[I" "OutOrder" ∈ jnst) d h
theorem fg_PL_15 {Z : jZ} {E : jE} {cc : ByteArray} {nL fR lR : Nat} {Q : State → Prop} {pc : Nat} {lv : List (Nat × Value)} {st : List Value} {I : jM} (C : jC Z E cc nL "OutOrder$Plan" fR lR) {i : Nat} (hi : jOB E 6 i) (d : decode cc pc = .ok (.getfield 15, 3)) (h : jJ Z E nL Q (pc + 3) lv (.int (I i 2) :: st) I) : jJ Z E nL Q pc lv (.ref (E.2.2.1 i) :: st) I := j_getIN C jcl_RO hi (k := 2) (by decide) rfl (ref := "OutOrder$Row") rfl (List.mem_of_getElem? (i := 24) rfl : Cond.fieldLinkNest "OutOrder$Plan" 15 "OutOrder$Row" "n" "I" "OutOrder" ∈ jnst) d h
theorem fg_PL_34 {Z : jZ} {E : jE} {cc : ByteArray} {nL fR lR : Nat} {Q : State → Prop} {pc : Nat} {lv : List (Nat × Value)} {st : List Value} {I : jM} (C : jC Z E cc nL "OutOrder$Plan" fR lR) {i : Nat} (hi : jOB E 6 i) (d : decode cc pc = .ok (.getfield 34, 3)) (h : jJ Z E nL Q (pc + 3) lv (.ref (E.2.2.1 (jr i 0)) :: st) I) : jJ Z E nL Q pc lv (.ref (E.2.2.1 i) :: st) I := j_getRN C jcl_RO hi (k := 0) (by decide) rfl (ref := "OutOrder$Row") rfl (List.mem_of_getElem? (i := 20) rfl : Cond.fieldLinkNest "OutOrder$Plan" 34 "OutOrder$Row" "unknowns" "[I" "OutOrder" ∈ jnst) d h
theorem fg_PL_37 {Z : jZ} {E : jE} {cc : ByteArray} {nL fR lR : Nat} {Q : State → Prop} {pc : Nat} {lv : List (Nat × Value)} {st : List Value} {I : jM} (C : jC Z E cc nL "OutOrder$Plan" fR lR) {i : Nat} (hi : jOB E 0 i) (d : decode cc pc = .ok (.getfield 37, 3)) (h : jJ Z E nL Q (pc + 3) lv (.ref (E.2.2.1 (jr i 4)) :: st) I) : jJ Z E nL Q pc lv (.ref (E.2.2.1 i) :: st) I := j_getRN C jcl_FN hi (k := 4) (by decide) rfl (ref := "OutOrder$FullNet") rfl (List.mem_of_getElem? (i := 41) rfl : Cond.fieldLinkNest "OutOrder$Plan" 37 "OutOrder$FullNet" "heights" "[I" "OutOrder" ∈ jnst) d h
theorem cw_PL_21 : jcw "OutOrder$Plan" 21 ⟨"OutOrder$Plan", "allowed", "(IILOutOrder$FullNet;)I"⟩ prog_7_method_3_code 5 (some .int) 3 := ⟨w_707, w_705, w_11, ⟨by decide, by decide⟩, by decide +kernel⟩
theorem cw_PL_25 : jcw "OutOrder$Plan" 25 ⟨"OutOrder$Plan", "highest", "(ILOutOrder$Row;LOutOrder$FullNet;)I"⟩ prog_7_method_4_code 7 (some .int) 3 := ⟨w_710, w_708, w_11, ⟨by decide, by decide⟩, by decide +kernel⟩
theorem fg_PL_9 {Z : jZ} {E : jE} {cc : ByteArray} {nL fR lR : Nat} {Q : State → Prop} {pc : Nat} {lv : List (Nat × Value)} {st : List Value} {I : jM} (C : jC Z E cc nL "OutOrder$Plan" fR lR) {i : Nat} (hi : jOB E 5 i) (d : decode cc pc = .ok (.getfield 9, 3)) (h : jJ Z E nL Q (pc + 3) lv (.ref (E.2.2.1 (jr i 0)) :: st) I) : jJ Z E nL Q pc lv (.ref (E.2.2.1 i) :: st) I := j_getR C jcl_PL hi (k := 0) (by decide) rfl (ref := "OutOrder$Plan") rfl w_271 d h
theorem cw_RI_13 : jcw "OutOrder$Rings" 13 ⟨"OutOrder$Rings", "joinedWith", "(II[I)I"⟩ prog_8_method_4_code 5 (some .int) 3 := ⟨w_566, w_564, w_16, ⟨by decide, by decide⟩, by decide +kernel⟩
theorem cw_RI_7 : jcw "OutOrder$Rings" 7 ⟨"OutOrder$Rings", "along", "(III[I)I"⟩ prog_8_method_3_code 9 (some .int) 4 := ⟨w_563, w_561, w_16, ⟨by decide, by decide⟩, by decide +kernel⟩
theorem fp_RO_18 {Z : jZ} {E : jE} {cc : ByteArray} {nL fR lR : Nat} {Q : State → Prop} {pc : Nat} {lv : List (Nat × Value)} {st : List Value} {I : jM} (C : jC Z E cc nL "OutOrder$Row" fR lR) {i : Nat} {v : Int32} (hi : jOB E 6 i) (d : decode cc pc = .ok (.putfield 18, 3)) (h : jJ Z E nL Q (pc + 3) lv st (jwr I i 2 v)) : jJ Z E nL Q pc lv (.int v :: .ref (E.2.2.1 i) :: st) I := j_put C jcl_RO hi (k := 2) (by decide) rfl (ref := "OutOrder$Row") rfl rfl w_95 rfl rfl d h
theorem fg_RO_18 {Z : jZ} {E : jE} {cc : ByteArray} {nL fR lR : Nat} {Q : State → Prop} {pc : Nat} {lv : List (Nat × Value)} {st : List Value} {I : jM} (C : jC Z E cc nL "OutOrder$Row" fR lR) {i : Nat} (hi : jOB E 6 i) (d : decode cc pc = .ok (.getfield 18, 3)) (h : jJ Z E nL Q (pc + 3) lv (.int (I i 2) :: st) I) : jJ Z E nL Q pc lv (.ref (E.2.2.1 i) :: st) I := j_getI C jcl_RO hi (k := 2) (by decide) rfl (ref := "OutOrder$Row") rfl w_95 d h
theorem cw_RO_22 : jcw "OutOrder$Row" 22 ⟨"OutOrder$Row", "set", "(II)V"⟩ prog_9_method_3_code 3 none 2 := ⟨w_291, w_288, w_4, ⟨by decide, by decide⟩, by decide +kernel⟩
theorem fg_RO_9 {Z : jZ} {E : jE} {cc : ByteArray} {nL fR lR : Nat} {Q : State → Prop} {pc : Nat} {lv : List (Nat × Value)} {st : List Value} {I : jM} (C : jC Z E cc nL "OutOrder$Row" fR lR) {i : Nat} (hi : jOB E 6 i) (d : decode cc pc = .ok (.getfield 9, 3)) (h : jJ Z E nL Q (pc + 3) lv (.ref (E.2.2.1 (jr i 0)) :: st) I) : jJ Z E nL Q pc lv (.ref (E.2.2.1 i) :: st) I := j_getR C jcl_RO hi (k := 0) (by decide) rfl (ref := "OutOrder$Row") rfl w_88 d h
theorem fg_RO_15 {Z : jZ} {E : jE} {cc : ByteArray} {nL fR lR : Nat} {Q : State → Prop} {pc : Nat} {lv : List (Nat × Value)} {st : List Value} {I : jM} (C : jC Z E cc nL "OutOrder$Row" fR lR) {i : Nat} (hi : jOB E 6 i) (d : decode cc pc = .ok (.getfield 15, 3)) (h : jJ Z E nL Q (pc + 3) lv (.ref (E.2.2.1 (jr i 1)) :: st) I) : jJ Z E nL Q pc lv (.ref (E.2.2.1 i) :: st) I := j_getR C jcl_RO hi (k := 1) (by decide) rfl (ref := "OutOrder$Row") rfl w_93 d h
theorem cw_RO_26 : jcw "OutOrder$Row" 26 ⟨"OutOrder$Row", "exchange", "(II)V"⟩ prog_9_method_4_code 4 none 2 := ⟨w_403, w_400, w_4, ⟨by decide, by decide⟩, by decide +kernel⟩
theorem fg_RU_12 {Z : jZ} {E : jE} {cc : ByteArray} {nL fR lR : Nat} {Q : State → Prop} {pc : Nat} {lv : List (Nat × Value)} {st : List Value} {I : jM} (C : jC Z E cc nL "OutOrder$Rules" fR lR) {i : Nat} (hi : jOB E 7 i) (d : decode cc pc = .ok (.getfield 12, 3)) (h : jJ Z E nL Q (pc + 3) lv (.ref (E.2.2.1 (jr i 0)) :: st) I) : jJ Z E nL Q pc lv (.ref (E.2.2.1 i) :: st) I := j_getR C jcl_RU hi (k := 0) (by decide) rfl (ref := "OutOrder$Rules") rfl w_137 d h
theorem fg_RU_48 {Z : jZ} {E : jE} {cc : ByteArray} {nL fR lR : Nat} {Q : State → Prop} {pc : Nat} {lv : List (Nat × Value)} {st : List Value} {I : jM} (C : jC Z E cc nL "OutOrder$Rules" fR lR) {i : Nat} (hi : jOB E 4 i) (d : decode cc pc = .ok (.getfield 48, 3)) (h : jJ Z E nL Q (pc + 3) lv (.int (I i 2) :: st) I) : jJ Z E nL Q pc lv (.ref (E.2.2.1 i) :: st) I := j_getIN C jcl_NE hi (k := 2) (by decide) rfl (ref := "OutOrder$Net") rfl (List.mem_of_getElem? (i := 34) rfl : Cond.fieldLinkNest "OutOrder$Rules" 48 "OutOrder$Net" "n" "I" "OutOrder" ∈ jnst) d h
theorem cw_RU_49 : jcw "OutOrder$Rules" 49 ⟨"OutOrder$Rules", "cost", "(II)I"⟩ prog_10_method_4_code 3 (some .int) 2 := ⟨w_482, w_479, w_5, ⟨by decide, by decide⟩, by decide +kernel⟩
theorem fg_RU_52 {Z : jZ} {E : jE} {cc : ByteArray} {nL fR lR : Nat} {Q : State → Prop} {pc : Nat} {lv : List (Nat × Value)} {st : List Value} {I : jM} (C : jC Z E cc nL "OutOrder$Rules" fR lR) {i : Nat} (hi : jOB E 4 i) (d : decode cc pc = .ok (.getfield 52, 3)) (h : jJ Z E nL Q (pc + 3) lv (.ref (E.2.2.1 (jr i 0)) :: st) I) : jJ Z E nL Q pc lv (.ref (E.2.2.1 i) :: st) I := j_getRN C jcl_NE hi (k := 0) (by decide) rfl (ref := "OutOrder$Net") rfl (List.mem_of_getElem? (i := 27) rfl : Cond.fieldLinkNest "OutOrder$Rules" 52 "OutOrder$Net" "near" "[I" "OutOrder" ∈ jnst) d h
theorem cw_RU_56 : jcw "OutOrder$Rules" 56 ⟨"java/lang/Integer", "bitCount", "(I)I"⟩ prog_15_method_49_code 1 (some .int) 1 := ⟨w_413, w_411, w_14, ⟨by decide, by decide⟩, by decide +kernel⟩
theorem cw_RU_62 : jcw "OutOrder$Rules" 62 ⟨"OutOrder$Net", "missing", "(I)I"⟩ prog_6_method_4_code 5 (some .int) 1 := ⟨w_486, w_483, w_6, ⟨by decide, by decide⟩, by decide +kernel⟩
theorem cw_RU_18 : jcw "OutOrder$Rules" 18 ⟨"OutOrder$Net", "take", "(LOutOrder$Table;)V"⟩ prog_6_method_2_code 3 none 1 := ⟨w_303, w_474, w_6, ⟨by decide, by decide⟩, by decide +kernel⟩
theorem fg_RU_22 {Z : jZ} {E : jE} {cc : ByteArray} {nL fR lR : Nat} {Q : State → Prop} {pc : Nat} {lv : List (Nat × Value)} {st : List Value} {I : jM} (C : jC Z E cc nL "OutOrder$Rules" fR lR) {i : Nat} (hi : jOB E 8 i) (d : decode cc pc = .ok (.getfield 22, 3)) (h : jJ Z E nL Q (pc + 3) lv (.int (I i 4) :: st) I) : jJ Z E nL Q pc lv (.ref (E.2.2.1 i) :: st) I := j_getIN C jcl_TA hi (k := 4) (by decide) rfl (ref := "OutOrder$Table") rfl (List.mem_of_getElem? (i := 14) rfl : Cond.fieldLinkNest "OutOrder$Rules" 22 "OutOrder$Table" "n" "I" "OutOrder" ∈ jnst) d h
theorem fg_RU_28 {Z : jZ} {E : jE} {cc : ByteArray} {nL fR lR : Nat} {Q : State → Prop} {pc : Nat} {lv : List (Nat × Value)} {st : List Value} {I : jM} (C : jC Z E cc nL "OutOrder$Rules" fR lR) {i : Nat} (hi : jOB E 4 i) (d : decode cc pc = .ok (.getfield 28, 3)) (h : jJ Z E nL Q (pc + 3) lv (.int (I i 1) :: st) I) : jJ Z E nL Q pc lv (.ref (E.2.2.1 i) :: st) I := j_getIN C jcl_NE hi (k := 1) (by decide) rfl (ref := "OutOrder$Net") rfl (List.mem_of_getElem? (i := 31) rfl : Cond.fieldLinkNest "OutOrder$Rules" 28 "OutOrder$Net" "left" "I" "OutOrder" ∈ jnst) d h
theorem fg_RU_31 {Z : jZ} {E : jE} {cc : ByteArray} {nL fR lR : Nat} {Q : State → Prop} {pc : Nat} {lv : List (Nat × Value)} {st : List Value} {I : jM} (C : jC Z E cc nL "OutOrder$Rules" fR lR) {i : Nat} (hi : jOB E 8 i) (d : decode cc pc = .ok (.getfield 31, 3)) (h : jJ Z E nL Q (pc + 3) lv (.int (I i 5) :: st) I) : jJ Z E nL Q pc lv (.ref (E.2.2.1 i) :: st) I := j_getIN C jcl_TA hi (k := 5) (by decide) rfl (ref := "OutOrder$Table") rfl (List.mem_of_getElem? (i := 17) rfl : Cond.fieldLinkNest "OutOrder$Rules" 31 "OutOrder$Table" "held" "I" "OutOrder" ∈ jnst) d h
theorem cw_RU_34 : jcw "OutOrder$Rules" 34 ⟨"OutOrder$Rules", "cheapest", "(II)I"⟩ prog_10_method_3_code 6 (some .int) 2 := ⟨w_478, w_475, w_5, ⟨by decide, by decide⟩, by decide +kernel⟩
theorem cw_RU_38 : jcw "OutOrder$Rules" 38 ⟨"OutOrder$Row", "set", "(II)V"⟩ prog_9_method_3_code 3 none 2 := ⟨w_291, w_417, w_4, ⟨by decide, by decide⟩, by decide +kernel⟩
theorem cw_RU_44 : jcw "OutOrder$Rules" 44 ⟨"OutOrder$Net", "remove", "(I)V"⟩ prog_6_method_5_code 2 none 1 := ⟨w_468, w_488, w_6, ⟨by decide, by decide⟩, by decide +kernel⟩
theorem fg_RU_69 {Z : jZ} {E : jE} {cc : ByteArray} {nL fR lR : Nat} {Q : State → Prop} {pc : Nat} {lv : List (Nat × Value)} {st : List Value} {I : jM} (C : jC Z E cc nL "OutOrder$Rules" fR lR) {i : Nat} (hi : jOB E 8 i) (d : decode cc pc = .ok (.getfield 69, 3)) (h : jJ Z E nL Q (pc + 3) lv (.ref (E.2.2.1 (jr i 2)) :: st) I) : jJ Z E nL Q pc lv (.ref (E.2.2.1 i) :: st) I := j_getRN C jcl_TA hi (k := 2) (by decide) rfl (ref := "OutOrder$Table") rfl (List.mem_of_getElem? (i := 8) rfl : Cond.fieldLinkNest "OutOrder$Rules" 69 "OutOrder$Table" "joins" "[I" "OutOrder" ∈ jnst) d h
theorem cw_RU_65 : jcw "OutOrder$Rules" 65 ⟨"OutOrder$Rules", "mostJoined", "(LOutOrder$Table;I)I"⟩ prog_10_method_6_code 6 (some .int) 2 := ⟨w_410, w_408, w_5, ⟨by decide, by decide⟩, by decide +kernel⟩
theorem fp_TA_30 {Z : jZ} {E : jE} {cc : ByteArray} {nL fR lR : Nat} {Q : State → Prop} {pc : Nat} {lv : List (Nat × Value)} {st : List Value} {I : jM} (C : jC Z E cc nL "OutOrder$Table" fR lR) {i : Nat} {v : Int32} (hi : jOB E 8 i) (d : decode cc pc = .ok (.putfield 30, 3)) (h : jJ Z E nL Q (pc + 3) lv st (jwr I i 4 v)) : jJ Z E nL Q pc lv (.int v :: .ref (E.2.2.1 i) :: st) I := j_put C jcl_TA hi (k := 4) (by decide) rfl (ref := "OutOrder$Table") rfl rfl w_59 rfl rfl d h
theorem fg_TA_12 {Z : jZ} {E : jE} {cc : ByteArray} {nL fR lR : Nat} {Q : State → Prop} {pc : Nat} {lv : List (Nat × Value)} {st : List Value} {I : jM} (C : jC Z E cc nL "OutOrder$Table" fR lR) {i : Nat} (hi : jOB E 8 i) (d : decode cc pc = .ok (.getfield 12, 3)) (h : jJ Z E nL Q (pc + 3) lv (.ref (E.2.2.1 (jr i 0)) :: st) I) : jJ Z E nL Q pc lv (.ref (E.2.2.1 i) :: st) I := j_getR C jcl_TA hi (k := 0) (by decide) rfl (ref := "OutOrder$Table") rfl w_45 d h
theorem fp_TA_34 {Z : jZ} {E : jE} {cc : ByteArray} {nL fR lR : Nat} {Q : State → Prop} {pc : Nat} {lv : List (Nat × Value)} {st : List Value} {I : jM} (C : jC Z E cc nL "OutOrder$Table" fR lR) {i : Nat} {v : Int32} (hi : jOB E 3 i) (d : decode cc pc = .ok (.putfield 34, 3)) (h : jJ Z E nL Q (pc + 3) lv st (jwr I i 0 v)) : jJ Z E nL Q pc lv (.int v :: .ref (E.2.2.1 i) :: st) I := j_putN C jcl_MO hi (k := 0) (by decide) rfl (ref := "OutOrder$Modulus") rfl rfl (List.mem_of_getElem? (i := 0) rfl : Cond.fieldLinkNest "OutOrder$Table" 34 "OutOrder$Modulus" "p" "I" "OutOrder" ∈ jnst) rfl rfl d h
theorem fp_TA_37 {Z : jZ} {E : jE} {cc : ByteArray} {nL fR lR : Nat} {Q : State → Prop} {pc : Nat} {lv : List (Nat × Value)} {st : List Value} {I : jM} (C : jC Z E cc nL "OutOrder$Table" fR lR) {i : Nat} {v : Int32} (hi : jOB E 8 i) (d : decode cc pc = .ok (.putfield 37, 3)) (h : jJ Z E nL Q (pc + 3) lv st (jwr I i 5 v)) : jJ Z E nL Q pc lv (.int v :: .ref (E.2.2.1 i) :: st) I := j_put C jcl_TA hi (k := 5) (by decide) rfl (ref := "OutOrder$Table") rfl rfl w_65 rfl rfl d h
theorem fg_TA_23 {Z : jZ} {E : jE} {cc : ByteArray} {nL fR lR : Nat} {Q : State → Prop} {pc : Nat} {lv : List (Nat × Value)} {st : List Value} {I : jM} (C : jC Z E cc nL "OutOrder$Table" fR lR) {i : Nat} (hi : jOB E 8 i) (d : decode cc pc = .ok (.getfield 23, 3)) (h : jJ Z E nL Q (pc + 3) lv (.ref (E.2.2.1 (jr i 2)) :: st) I) : jJ Z E nL Q pc lv (.ref (E.2.2.1 i) :: st) I := j_getR C jcl_TA hi (k := 2) (by decide) rfl (ref := "OutOrder$Table") rfl w_51 d h
theorem fg_TA_27 {Z : jZ} {E : jE} {cc : ByteArray} {nL fR lR : Nat} {Q : State → Prop} {pc : Nat} {lv : List (Nat × Value)} {st : List Value} {I : jM} (C : jC Z E cc nL "OutOrder$Table" fR lR) {i : Nat} (hi : jOB E 8 i) (d : decode cc pc = .ok (.getfield 27, 3)) (h : jJ Z E nL Q (pc + 3) lv (.ref (E.2.2.1 (jr i 3)) :: st) I) : jJ Z E nL Q pc lv (.ref (E.2.2.1 i) :: st) I := j_getR C jcl_TA hi (k := 3) (by decide) rfl (ref := "OutOrder$Table") rfl w_56 d h
theorem fg_TA_20 {Z : jZ} {E : jE} {cc : ByteArray} {nL fR lR : Nat} {Q : State → Prop} {pc : Nat} {lv : List (Nat × Value)} {st : List Value} {I : jM} (C : jC Z E cc nL "OutOrder$Table" fR lR) {i : Nat} (hi : jOB E 8 i) (d : decode cc pc = .ok (.getfield 20, 3)) (h : jJ Z E nL Q (pc + 3) lv (.ref (E.2.2.1 (jr i 1)) :: st) I) : jJ Z E nL Q pc lv (.ref (E.2.2.1 i) :: st) I := j_getR C jcl_TA hi (k := 1) (by decide) rfl (ref := "OutOrder$Table") rfl w_48 d h
theorem fg_TA_30 {Z : jZ} {E : jE} {cc : ByteArray} {nL fR lR : Nat} {Q : State → Prop} {pc : Nat} {lv : List (Nat × Value)} {st : List Value} {I : jM} (C : jC Z E cc nL "OutOrder$Table" fR lR) {i : Nat} (hi : jOB E 8 i) (d : decode cc pc = .ok (.getfield 30, 3)) (h : jJ Z E nL Q (pc + 3) lv (.int (I i 4) :: st) I) : jJ Z E nL Q pc lv (.ref (E.2.2.1 i) :: st) I := j_getI C jcl_TA hi (k := 4) (by decide) rfl (ref := "OutOrder$Table") rfl w_59 d h
theorem fg_TA_37 {Z : jZ} {E : jE} {cc : ByteArray} {nL fR lR : Nat} {Q : State → Prop} {pc : Nat} {lv : List (Nat × Value)} {st : List Value} {I : jM} (C : jC Z E cc nL "OutOrder$Table" fR lR) {i : Nat} (hi : jOB E 8 i) (d : decode cc pc = .ok (.getfield 37, 3)) (h : jJ Z E nL Q (pc + 3) lv (.int (I i 5) :: st) I) : jJ Z E nL Q pc lv (.ref (E.2.2.1 i) :: st) I := j_getI C jcl_TA hi (k := 5) (by decide) rfl (ref := "OutOrder$Table") rfl w_65 d h
theorem cw_TA_44 : jcw "OutOrder$Table" 44 ⟨"java/lang/Integer", "bitCount", "(I)I"⟩ prog_15_method_49_code 1 (some .int) 1 := ⟨w_413, w_579, w_14, ⟨by decide, by decide⟩, by decide +kernel⟩
theorem cw_TA_40 : jcw "OutOrder$Table" 40 ⟨"OutOrder$Modulus", "reduce", "(I)I"⟩ prog_5_method_3_code 2 (some .int) 1 := ⟨w_372, w_369, w_3, ⟨by decide, by decide⟩, by decide +kernel⟩
theorem fg_WO_30 {Z : jZ} {E : jE} {cc : ByteArray} {nL fR lR : Nat} {Q : State → Prop} {pc : Nat} {lv : List (Nat × Value)} {st : List Value} {I : jM} (C : jC Z E cc nL "OutOrder$Work" fR lR) {i : Nat} (hi : jOB E 9 i) (d : decode cc pc = .ok (.getfield 30, 3)) (h : jJ Z E nL Q (pc + 3) lv (.int (I i 4) :: st) I) : jJ Z E nL Q pc lv (.ref (E.2.2.1 i) :: st) I := j_getI C jcl_WO hi (k := 4) (by decide) rfl (ref := "OutOrder$Work") rfl w_248 d h
theorem fg_WO_16 {Z : jZ} {E : jE} {cc : ByteArray} {nL fR lR : Nat} {Q : State → Prop} {pc : Nat} {lv : List (Nat × Value)} {st : List Value} {I : jM} (C : jC Z E cc nL "OutOrder$Work" fR lR) {i : Nat} (hi : jOB E 9 i) (d : decode cc pc = .ok (.getfield 16, 3)) (h : jJ Z E nL Q (pc + 3) lv (.ref (E.2.2.1 (jr i 1)) :: st) I) : jJ Z E nL Q pc lv (.ref (E.2.2.1 i) :: st) I := j_getR C jcl_WO hi (k := 1) (by decide) rfl (ref := "OutOrder$Work") rfl w_243 d h
theorem fg_WO_11 {Z : jZ} {E : jE} {cc : ByteArray} {nL fR lR : Nat} {Q : State → Prop} {pc : Nat} {lv : List (Nat × Value)} {st : List Value} {I : jM} (C : jC Z E cc nL "OutOrder$Work" fR lR) {i : Nat} (hi : jOB E 9 i) (d : decode cc pc = .ok (.getfield 11, 3)) (h : jJ Z E nL Q (pc + 3) lv (.ref (E.2.2.1 (jr i 0)) :: st) I) : jJ Z E nL Q pc lv (.ref (E.2.2.1 i) :: st) I := j_getR C jcl_WO hi (k := 0) (by decide) rfl (ref := "OutOrder$Work") rfl w_242 d h
theorem fg_WO_20 {Z : jZ} {E : jE} {cc : ByteArray} {nL fR lR : Nat} {Q : State → Prop} {pc : Nat} {lv : List (Nat × Value)} {st : List Value} {I : jM} (C : jC Z E cc nL "OutOrder$Work" fR lR) {i : Nat} (hi : jOB E 9 i) (d : decode cc pc = .ok (.getfield 20, 3)) (h : jJ Z E nL Q (pc + 3) lv (.ref (E.2.2.1 (jr i 2)) :: st) I) : jJ Z E nL Q pc lv (.ref (E.2.2.1 i) :: st) I := j_getR C jcl_WO hi (k := 2) (by decide) rfl (ref := "OutOrder$Work") rfl w_245 d h
theorem cw_WO_71 : jcw "OutOrder$Work" 71 ⟨"OutOrder$Modulus", "times", "(II)I"⟩ prog_5_method_4_code 3 (some .int) 2 := ⟨w_636, w_646, w_3, ⟨by decide, by decide⟩, by decide +kernel⟩
theorem cw_WO_75 : jcw "OutOrder$Work" 75 ⟨"OutOrder$Modulus", "reduce", "(I)I"⟩ prog_5_method_3_code 2 (some .int) 1 := ⟨w_372, w_647, w_3, ⟨by decide, by decide⟩, by decide +kernel⟩
theorem fp_WO_30 {Z : jZ} {E : jE} {cc : ByteArray} {nL fR lR : Nat} {Q : State → Prop} {pc : Nat} {lv : List (Nat × Value)} {st : List Value} {I : jM} (C : jC Z E cc nL "OutOrder$Work" fR lR) {i : Nat} {v : Int32} (hi : jOB E 9 i) (d : decode cc pc = .ok (.putfield 30, 3)) (h : jJ Z E nL Q (pc + 3) lv st (jwr I i 4 v)) : jJ Z E nL Q pc lv (.int v :: .ref (E.2.2.1 i) :: st) I := j_put C jcl_WO hi (k := 4) (by decide) rfl (ref := "OutOrder$Work") rfl rfl w_248 rfl rfl d h
theorem fp_WO_26 {Z : jZ} {E : jE} {cc : ByteArray} {nL fR lR : Nat} {Q : State → Prop} {pc : Nat} {lv : List (Nat × Value)} {st : List Value} {I : jM} (C : jC Z E cc nL "OutOrder$Work" fR lR) {i : Nat} {v : Int32} (hi : jOB E 9 i) (d : decode cc pc = .ok (.putfield 26, 3)) (h : jJ Z E nL Q (pc + 3) lv st (jwr I i 5 v)) : jJ Z E nL Q pc lv (.int v :: .ref (E.2.2.1 i) :: st) I := j_put C jcl_WO hi (k := 5) (by decide) rfl (ref := "OutOrder$Work") rfl rfl w_250 rfl rfl d h
theorem fg_WO_40 {Z : jZ} {E : jE} {cc : ByteArray} {nL fR lR : Nat} {Q : State → Prop} {pc : Nat} {lv : List (Nat × Value)} {st : List Value} {I : jM} (C : jC Z E cc nL "OutOrder$Work" fR lR) {i : Nat} (hi : jOB E 8 i) (d : decode cc pc = .ok (.getfield 40, 3)) (h : jJ Z E nL Q (pc + 3) lv (.int (I i 4) :: st) I) : jJ Z E nL Q pc lv (.ref (E.2.2.1 i) :: st) I := j_getIN C jcl_TA hi (k := 4) (by decide) rfl (ref := "OutOrder$Table") rfl (List.mem_of_getElem? (i := 15) rfl : Cond.fieldLinkNest "OutOrder$Work" 40 "OutOrder$Table" "n" "I" "OutOrder" ∈ jnst) d h
theorem fg_WO_45 {Z : jZ} {E : jE} {cc : ByteArray} {nL fR lR : Nat} {Q : State → Prop} {pc : Nat} {lv : List (Nat × Value)} {st : List Value} {I : jM} (C : jC Z E cc nL "OutOrder$Work" fR lR) {i : Nat} (hi : jOB E 8 i) (d : decode cc pc = .ok (.getfield 45, 3)) (h : jJ Z E nL Q (pc + 3) lv (.ref (E.2.2.1 (jr i 0)) :: st) I) : jJ Z E nL Q pc lv (.ref (E.2.2.1 i) :: st) I := j_getRN C jcl_TA hi (k := 0) (by decide) rfl (ref := "OutOrder$Table") rfl (List.mem_of_getElem? (i := 2) rfl : Cond.fieldLinkNest "OutOrder$Work" 45 "OutOrder$Table" "modulus" "LOutOrder$Modulus;" "OutOrder" ∈ jnst) d h
theorem cw_WO_33 : jcw "OutOrder$Work" 33 ⟨"OutOrder$Work", "forget", "()V"⟩ prog_12_method_2_code 1 none 0 := ⟨w_311, w_624, w_10, ⟨by decide, by decide⟩, by decide +kernel⟩
theorem cw_WO_36 : jcw "OutOrder$Work" 36 ⟨"OutOrder$Work", "takeNumbers", "(LOutOrder$Table;LOutOrder$Row;)V"⟩ prog_12_method_4_code 5 none 2 := ⟨w_628, w_625, w_10, ⟨by decide, by decide⟩, by decide +kernel⟩
theorem cw_WO_49 : jcw "OutOrder$Work" 49 ⟨"OutOrder$Modulus", "inverse", "(I)I"⟩ prog_5_method_5_code 5 (some .int) 1 := ⟨w_632, w_629, w_3, ⟨by decide, by decide⟩, by decide +kernel⟩
theorem cw_WO_55 : jcw "OutOrder$Work" 55 ⟨"OutOrder$Work", "hasRest", "(II)Z"⟩ prog_12_method_5_code 4 (some .boolean) 2 := ⟨w_641, w_638, w_10, ⟨by decide, by decide⟩, by decide +kernel⟩
theorem cw_WO_59 : jcw "OutOrder$Work" 59 ⟨"OutOrder$Work", "eliminate", "(IILOutOrder$Modulus;)V"⟩ prog_12_method_6_code 7 none 3 := ⟨w_645, w_642, w_10, ⟨by decide, by decide⟩, by decide +kernel⟩
theorem fg_WO_23 {Z : jZ} {E : jE} {cc : ByteArray} {nL fR lR : Nat} {Q : State → Prop} {pc : Nat} {lv : List (Nat × Value)} {st : List Value} {I : jM} (C : jC Z E cc nL "OutOrder$Work" fR lR) {i : Nat} (hi : jOB E 9 i) (d : decode cc pc = .ok (.getfield 23, 3)) (h : jJ Z E nL Q (pc + 3) lv (.ref (E.2.2.1 (jr i 3)) :: st) I) : jJ Z E nL Q pc lv (.ref (E.2.2.1 i) :: st) I := j_getR C jcl_WO hi (k := 3) (by decide) rfl (ref := "OutOrder$Work") rfl w_246 d h
theorem fg_WO_63 {Z : jZ} {E : jE} {cc : ByteArray} {nL fR lR : Nat} {Q : State → Prop} {pc : Nat} {lv : List (Nat × Value)} {st : List Value} {I : jM} (C : jC Z E cc nL "OutOrder$Work" fR lR) {i : Nat} (hi : jOB E 8 i) (d : decode cc pc = .ok (.getfield 63, 3)) (h : jJ Z E nL Q (pc + 3) lv (.ref (E.2.2.1 (jr i 1)) :: st) I) : jJ Z E nL Q pc lv (.ref (E.2.2.1 i) :: st) I := j_getRN C jcl_TA hi (k := 1) (by decide) rfl (ref := "OutOrder$Table") rfl (List.mem_of_getElem? (i := 5) rfl : Cond.fieldLinkNest "OutOrder$Work" 63 "OutOrder$Table" "values" "[[I" "OutOrder" ∈ jnst) d h
theorem fg_WO_66 {Z : jZ} {E : jE} {cc : ByteArray} {nL fR lR : Nat} {Q : State → Prop} {pc : Nat} {lv : List (Nat × Value)} {st : List Value} {I : jM} (C : jC Z E cc nL "OutOrder$Work" fR lR) {i : Nat} (hi : jOB E 6 i) (d : decode cc pc = .ok (.getfield 66, 3)) (h : jJ Z E nL Q (pc + 3) lv (.ref (E.2.2.1 (jr i 0)) :: st) I) : jJ Z E nL Q pc lv (.ref (E.2.2.1 i) :: st) I := j_getRN C jcl_RO hi (k := 0) (by decide) rfl (ref := "OutOrder$Row") rfl (List.mem_of_getElem? (i := 21) rfl : Cond.fieldLinkNest "OutOrder$Work" 66 "OutOrder$Row" "unknowns" "[I" "OutOrder" ∈ jnst) d h
theorem fg_WO_78 {Z : jZ} {E : jE} {cc : ByteArray} {nL fR lR : Nat} {Q : State → Prop} {pc : Nat} {lv : List (Nat × Value)} {st : List Value} {I : jM} (C : jC Z E cc nL "OutOrder$Work" fR lR) {i : Nat} (hi : jOB E 8 i) (d : decode cc pc = .ok (.getfield 78, 3)) (h : jJ Z E nL Q (pc + 3) lv (.ref (E.2.2.1 (jr i 3)) :: st) I) : jJ Z E nL Q pc lv (.ref (E.2.2.1 i) :: st) I := j_getRN C jcl_TA hi (k := 3) (by decide) rfl (ref := "OutOrder$Table") rfl (List.mem_of_getElem? (i := 10) rfl : Cond.fieldLinkNest "OutOrder$Work" 78 "OutOrder$Table" "sides" "[I" "OutOrder" ∈ jnst) d h
theorem fg_MD_7 {Z : jZ} {E : jE} {cc : ByteArray} {nL fR lR : Nat} {Q : State → Prop} {pc : Nat} {lv : List (Nat × Value)} {st : List Value} {I : jM} (C : jC Z E cc nL "OutOrderModel" fR lR) {i : Nat} (hi : jOB E 11 i) (d : decode cc pc = .ok (.getfield 7, 3)) (h : jJ Z E nL Q (pc + 3) lv (.int (I i 0) :: st) I) : jJ Z E nL Q pc lv (.ref (E.2.2.1 i) :: st) I := j_getI C jcl_MD hi (k := 0) (by decide) rfl (ref := "OutOrderModel") rfl w_729 d h
theorem fg_MD_33 {Z : jZ} {E : jE} {cc : ByteArray} {nL fR lR : Nat} {Q : State → Prop} {pc : Nat} {lv : List (Nat × Value)} {st : List Value} {I : jM} (C : jC Z E cc nL "OutOrderModel" fR lR) {i : Nat} (hi : jOB E 11 i) (d : decode cc pc = .ok (.getfield 33, 3)) (h : jJ Z E nL Q (pc + 3) lv (.ref (E.2.2.1 (jr i 7)) :: st) I) : jJ Z E nL Q pc lv (.ref (E.2.2.1 i) :: st) I := j_getR C jcl_MD hi (k := 7) (by decide) rfl (ref := "OutOrderModel") rfl w_736 d h
theorem cw_MD_90 : jcw "OutOrderModel" 90 ⟨"OutOrderModel", "isUnknown", "(I)Z"⟩ prog_14_method_5_code 2 (some .boolean) 1 := ⟨w_830, w_827, w_12, ⟨by decide, by decide⟩, by decide +kernel⟩
theorem fg_MD_24 {Z : jZ} {E : jE} {cc : ByteArray} {nL fR lR : Nat} {Q : State → Prop} {pc : Nat} {lv : List (Nat × Value)} {st : List Value} {I : jM} (C : jC Z E cc nL "OutOrderModel" fR lR) {i : Nat} (hi : jOB E 11 i) (d : decode cc pc = .ok (.getfield 24, 3)) (h : jJ Z E nL Q (pc + 3) lv (.ref (E.2.2.1 (jr i 4)) :: st) I) : jJ Z E nL Q pc lv (.ref (E.2.2.1 i) :: st) I := j_getR C jcl_MD hi (k := 4) (by decide) rfl (ref := "OutOrderModel") rfl w_733 d h
theorem cw_MD_79 : jcw "OutOrderModel" 79 ⟨"OutOrderModel", "refuse", "(I)I"⟩ prog_14_method_4_code 2 (some .int) 1 := ⟨w_810, w_807, w_12, ⟨by decide, by decide⟩, by decide +kernel⟩
theorem fg_MD_161 {Z : jZ} {E : jE} {cc : ByteArray} {nL fR lR : Nat} {Q : State → Prop} {pc : Nat} {lv : List (Nat × Value)} {st : List Value} {I : jM} (C : jC Z E cc nL "OutOrderModel" fR lR) {i : Nat} (hi : jOB E 11 i) (d : decode cc pc = .ok (.getfield 161, 3)) (h : jJ Z E nL Q (pc + 3) lv (.int (I i 15) :: st) I) : jJ Z E nL Q pc lv (.ref (E.2.2.1 i) :: st) I := j_getI C jcl_MD hi (k := 15) (by decide) rfl (ref := "OutOrderModel") rfl w_744 d h
theorem fp_MD_161 {Z : jZ} {E : jE} {cc : ByteArray} {nL fR lR : Nat} {Q : State → Prop} {pc : Nat} {lv : List (Nat × Value)} {st : List Value} {I : jM} (C : jC Z E cc nL "OutOrderModel" fR lR) {i : Nat} {v : Int32} (hi : jOB E 11 i) (d : decode cc pc = .ok (.putfield 161, 3)) (h : jJ Z E nL Q (pc + 3) lv st (jwr I i 15 v)) : jJ Z E nL Q pc lv (.int v :: .ref (E.2.2.1 i) :: st) I := j_put C jcl_MD hi (k := 15) (by decide) rfl (ref := "OutOrderModel") rfl rfl w_744 rfl rfl d h
theorem fg_MD_57 {Z : jZ} {E : jE} {cc : ByteArray} {nL fR lR : Nat} {Q : State → Prop} {pc : Nat} {lv : List (Nat × Value)} {st : List Value} {I : jM} (C : jC Z E cc nL "OutOrderModel" fR lR) {i : Nat} (hi : jOB E 11 i) (d : decode cc pc = .ok (.getfield 57, 3)) (h : jJ Z E nL Q (pc + 3) lv (.ref (E.2.2.1 (jr i 17)) :: st) I) : jJ Z E nL Q pc lv (.ref (E.2.2.1 i) :: st) I := j_getR C jcl_MD hi (k := 17) (by decide) rfl (ref := "OutOrderModel") rfl w_746 d h
theorem fg_MD_54 {Z : jZ} {E : jE} {cc : ByteArray} {nL fR lR : Nat} {Q : State → Prop} {pc : Nat} {lv : List (Nat × Value)} {st : List Value} {I : jM} (C : jC Z E cc nL "OutOrderModel" fR lR) {i : Nat} (hi : jOB E 11 i) (d : decode cc pc = .ok (.getfield 54, 3)) (h : jJ Z E nL Q (pc + 3) lv (.ref (E.2.2.1 (jr i 16)) :: st) I) : jJ Z E nL Q pc lv (.ref (E.2.2.1 i) :: st) I := j_getR C jcl_MD hi (k := 16) (by decide) rfl (ref := "OutOrderModel") rfl w_745 d h
theorem fg_MD_51 {Z : jZ} {E : jE} {cc : ByteArray} {nL fR lR : Nat} {Q : State → Prop} {pc : Nat} {lv : List (Nat × Value)} {st : List Value} {I : jM} (C : jC Z E cc nL "OutOrderModel" fR lR) {i : Nat} (hi : jOB E 11 i) (d : decode cc pc = .ok (.getfield 51, 3)) (h : jJ Z E nL Q (pc + 3) lv (.ref (E.2.2.1 (jr i 14)) :: st) I) : jJ Z E nL Q pc lv (.ref (E.2.2.1 i) :: st) I := j_getR C jcl_MD hi (k := 14) (by decide) rfl (ref := "OutOrderModel") rfl w_743 d h
theorem cw_MD_100 : jcw "OutOrderModel" 100 ⟨"OutOrderModel", "beginNet", "()V"⟩ prog_14_method_13_code 3 none 0 := ⟨w_822, w_819, w_12, ⟨by decide, by decide⟩, by decide +kernel⟩
theorem fg_MD_16 {Z : jZ} {E : jE} {cc : ByteArray} {nL fR lR : Nat} {Q : State → Prop} {pc : Nat} {lv : List (Nat × Value)} {st : List Value} {I : jM} (C : jC Z E cc nL "OutOrderModel" fR lR) {i : Nat} (hi : jOB E 11 i) (d : decode cc pc = .ok (.getfield 16, 3)) (h : jJ Z E nL Q (pc + 3) lv (.ref (E.2.2.1 (jr i 2)) :: st) I) : jJ Z E nL Q pc lv (.ref (E.2.2.1 i) :: st) I := j_getR C jcl_MD hi (k := 2) (by decide) rfl (ref := "OutOrderModel") rfl w_731 d h
theorem fg_MD_20 {Z : jZ} {E : jE} {cc : ByteArray} {nL fR lR : Nat} {Q : State → Prop} {pc : Nat} {lv : List (Nat × Value)} {st : List Value} {I : jM} (C : jC Z E cc nL "OutOrderModel" fR lR) {i : Nat} (hi : jOB E 11 i) (d : decode cc pc = .ok (.getfield 20, 3)) (h : jJ Z E nL Q (pc + 3) lv (.ref (E.2.2.1 (jr i 3)) :: st) I) : jJ Z E nL Q pc lv (.ref (E.2.2.1 i) :: st) I := j_getR C jcl_MD hi (k := 3) (by decide) rfl (ref := "OutOrderModel") rfl w_732 d h
theorem cw_MD_110 : jcw "OutOrderModel" 110 ⟨"OutOrderModel", "fillsOf", "([II)I"⟩ prog_14_method_14_code 4 (some .int) 2 := ⟨w_864, w_862, w_12, ⟨by decide, by decide⟩, by decide +kernel⟩
theorem cw_MD_98 : jcw "OutOrderModel" 98 ⟨"OutOrderModel", "ones", "(I)I"⟩ prog_14_method_6_code 3 (some .int) 1 := ⟨w_867, w_865, w_12, ⟨by decide, by decide⟩, by decide +kernel⟩
theorem cw_MD_106 : jcw "OutOrderModel" 106 ⟨"OutOrderModel", "joinAll", "([II)V"⟩ prog_14_method_15_code 3 none 2 := ⟨w_870, w_868, w_12, ⟨by decide, by decide⟩, by decide +kernel⟩
theorem cw_MD_125 : jcw "OutOrderModel" 125 ⟨"OutOrderModel", "findLeast", "(Z)V"⟩ prog_14_method_23_code 7 none 1 := ⟨w_882, w_879, w_12, ⟨by decide, by decide⟩, by decide +kernel⟩
theorem fg_MD_45 {Z : jZ} {E : jE} {cc : ByteArray} {nL fR lR : Nat} {Q : State → Prop} {pc : Nat} {lv : List (Nat × Value)} {st : List Value} {I : jM} (C : jC Z E cc nL "OutOrderModel" fR lR) {i : Nat} (hi : jOB E 11 i) (d : decode cc pc = .ok (.getfield 45, 3)) (h : jJ Z E nL Q (pc + 3) lv (.ref (E.2.2.1 (jr i 12)) :: st) I) : jJ Z E nL Q pc lv (.ref (E.2.2.1 i) :: st) I := j_getR C jcl_MD hi (k := 12) (by decide) rfl (ref := "OutOrderModel") rfl w_741 d h
theorem cw_MD_118 : jcw "OutOrderModel" 118 ⟨"OutOrderModel", "costOf", "(IIZ)I"⟩ prog_14_method_21_code 7 (some .int) 3 := ⟨w_886, w_883, w_12, ⟨by decide, by decide⟩, by decide +kernel⟩
theorem cw_MD_122 : jcw "OutOrderModel" 122 ⟨"OutOrderModel", "joined", "(IIZ)I"⟩ prog_14_method_22_code 4 (some .int) 3 := ⟨w_894, w_891, w_12, ⟨by decide, by decide⟩, by decide +kernel⟩
theorem cw_MD_148 : jcw "OutOrderModel" 148 ⟨"OutOrderModel", "goThrough", "()V"⟩ prog_14_method_16_code 7 none 0 := ⟨w_902, w_899, w_12, ⟨by decide, by decide⟩, by decide +kernel⟩
theorem cw_MD_151 : jcw "OutOrderModel" 151 ⟨"OutOrderModel", "parent", "(I)I"⟩ prog_14_method_30_code 4 (some .int) 1 := ⟨w_923, w_920, w_12, ⟨by decide, by decide⟩, by decide +kernel⟩
theorem fg_MD_42 {Z : jZ} {E : jE} {cc : ByteArray} {nL fR lR : Nat} {Q : State → Prop} {pc : Nat} {lv : List (Nat × Value)} {st : List Value} {I : jM} (C : jC Z E cc nL "OutOrderModel" fR lR) {i : Nat} (hi : jOB E 11 i) (d : decode cc pc = .ok (.getfield 42, 3)) (h : jJ Z E nL Q (pc + 3) lv (.ref (E.2.2.1 (jr i 11)) :: st) I) : jJ Z E nL Q pc lv (.ref (E.2.2.1 i) :: st) I := j_getR C jcl_MD hi (k := 11) (by decide) rfl (ref := "OutOrderModel") rfl w_740 d h
theorem fg_MD_36 {Z : jZ} {E : jE} {cc : ByteArray} {nL fR lR : Nat} {Q : State → Prop} {pc : Nat} {lv : List (Nat × Value)} {st : List Value} {I : jM} (C : jC Z E cc nL "OutOrderModel" fR lR) {i : Nat} (hi : jOB E 11 i) (d : decode cc pc = .ok (.getfield 36, 3)) (h : jJ Z E nL Q (pc + 3) lv (.ref (E.2.2.1 (jr i 8)) :: st) I) : jJ Z E nL Q pc lv (.ref (E.2.2.1 i) :: st) I := j_getR C jcl_MD hi (k := 8) (by decide) rfl (ref := "OutOrderModel") rfl w_737 d h
theorem cw_MD_154 : jcw "OutOrderModel" 154 ⟨"OutOrderModel", "height", "(I)I"⟩ prog_14_method_31_code 4 (some .int) 1 := ⟨w_927, w_924, w_12, ⟨by decide, by decide⟩, by decide +kernel⟩
theorem cw_MD_114 : jcw "OutOrderModel" 114 ⟨"OutOrderModel", "around", "(II)I"⟩ prog_14_method_20_code 8 (some .int) 2 := ⟨w_890, w_887, w_12, ⟨by decide, by decide⟩, by decide +kernel⟩
theorem fg_MD_103 {Z : jZ} {E : jE} {cc : ByteArray} {nL fR lR : Nat} {Q : State → Prop} {pc : Nat} {lv : List (Nat × Value)} {st : List Value} {I : jM} (C : jC Z E cc nL "OutOrderModel" fR lR) {i : Nat} (hi : jOB E 11 i) (d : decode cc pc = .ok (.getfield 103, 3)) (h : jJ Z E nL Q (pc + 3) lv (.int (I i 10) :: st) I) : jJ Z E nL Q pc lv (.ref (E.2.2.1 i) :: st) I := j_getI C jcl_MD hi (k := 10) (by decide) rfl (ref := "OutOrderModel") rfl w_739 d h
theorem cw_MD_75 : jcw "OutOrderModel" 75 ⟨"OutOrderModel", "in", "(III)Z"⟩ prog_14_method_3_code 3 (some .boolean) 3 := ⟨w_833, w_831, w_12, ⟨by decide, by decide⟩, by decide +kernel⟩
theorem fg_MD_39 {Z : jZ} {E : jE} {cc : ByteArray} {nL fR lR : Nat} {Q : State → Prop} {pc : Nat} {lv : List (Nat × Value)} {st : List Value} {I : jM} (C : jC Z E cc nL "OutOrderModel" fR lR) {i : Nat} (hi : jOB E 11 i) (d : decode cc pc = .ok (.getfield 39, 3)) (h : jJ Z E nL Q (pc + 3) lv (.ref (E.2.2.1 (jr i 9)) :: st) I) : jJ Z E nL Q pc lv (.ref (E.2.2.1 i) :: st) I := j_getR C jcl_MD hi (k := 9) (by decide) rfl (ref := "OutOrderModel") rfl w_738 d h
theorem fg_MD_48 {Z : jZ} {E : jE} {cc : ByteArray} {nL fR lR : Nat} {Q : State → Prop} {pc : Nat} {lv : List (Nat × Value)} {st : List Value} {I : jM} (C : jC Z E cc nL "OutOrderModel" fR lR) {i : Nat} (hi : jOB E 11 i) (d : decode cc pc = .ok (.getfield 48, 3)) (h : jJ Z E nL Q (pc + 3) lv (.int (I i 13) :: st) I) : jJ Z E nL Q pc lv (.ref (E.2.2.1 i) :: st) I := j_getI C jcl_MD hi (k := 13) (by decide) rfl (ref := "OutOrderModel") rfl w_742 d h
theorem fp_MD_48 {Z : jZ} {E : jE} {cc : ByteArray} {nL fR lR : Nat} {Q : State → Prop} {pc : Nat} {lv : List (Nat × Value)} {st : List Value} {I : jM} (C : jC Z E cc nL "OutOrderModel" fR lR) {i : Nat} {v : Int32} (hi : jOB E 11 i) (d : decode cc pc = .ok (.putfield 48, 3)) (h : jJ Z E nL Q (pc + 3) lv st (jwr I i 13 v)) : jJ Z E nL Q pc lv (.int v :: .ref (E.2.2.1 i) :: st) I := j_put C jcl_MD hi (k := 13) (by decide) rfl (ref := "OutOrderModel") rfl rfl w_742 rfl rfl d h
theorem fp_MD_103 {Z : jZ} {E : jE} {cc : ByteArray} {nL fR lR : Nat} {Q : State → Prop} {pc : Nat} {lv : List (Nat × Value)} {st : List Value} {I : jM} (C : jC Z E cc nL "OutOrderModel" fR lR) {i : Nat} {v : Int32} (hi : jOB E 11 i) (d : decode cc pc = .ok (.putfield 103, 3)) (h : jJ Z E nL Q (pc + 3) lv st (jwr I i 10 v)) : jJ Z E nL Q pc lv (.int v :: .ref (E.2.2.1 i) :: st) I := j_put C jcl_MD hi (k := 10) (by decide) rfl (ref := "OutOrderModel") rfl rfl w_739 rfl rfl d h
theorem cw_MD_167 : jcw "OutOrderModel" 167 ⟨"OutOrderModel", "goingLacks", "(I)I"⟩ prog_14_method_41_code 2 (some .int) 1 := ⟨w_960, w_957, w_12, ⟨by decide, by decide⟩, by decide +kernel⟩
theorem cw_MD_170 : jcw "OutOrderModel" 170 ⟨"OutOrderModel", "goingAround", "(I)I"⟩ prog_14_method_42_code 2 (some .int) 1 := ⟨w_968, w_965, w_12, ⟨by decide, by decide⟩, by decide +kernel⟩
theorem cw_MD_173 : jcw "OutOrderModel" 173 ⟨"OutOrderModel", "kindOf", "(I)I"⟩ prog_14_method_44_code 5 (some .int) 1 := ⟨w_976, w_973, w_12, ⟨by decide, by decide⟩, by decide +kernel⟩
theorem cw_MD_164 : jcw "OutOrderModel" 164 ⟨"OutOrderModel", "goneBits", "()I"⟩ prog_14_method_40_code 3 (some .int) 0 := ⟨w_964, w_961, w_12, ⟨by decide, by decide⟩, by decide +kernel⟩
theorem cw_MD_188 : jcw "OutOrderModel" 188 ⟨"OutOrderModel", "isSolved", "()Z"⟩ prog_14_method_56_code 3 (some .boolean) 0 := ⟨w_1020, w_1017, w_12, ⟨by decide, by decide⟩, by decide +kernel⟩
theorem fg_MD_69 {Z : jZ} {E : jE} {cc : ByteArray} {nL fR lR : Nat} {Q : State → Prop} {pc : Nat} {lv : List (Nat × Value)} {st : List Value} {I : jM} (C : jC Z E cc nL "OutOrderModel" fR lR) {i : Nat} (hi : jOB E 11 i) (d : decode cc pc = .ok (.getfield 69, 3)) (h : jJ Z E nL Q (pc + 3) lv (.ref (E.2.2.1 (jr i 22)) :: st) I) : jJ Z E nL Q pc lv (.ref (E.2.2.1 i) :: st) I := j_getR C jcl_MD hi (k := 22) (by decide) rfl (ref := "OutOrderModel") rfl w_751 d h
theorem cw_MD_191 : jcw "OutOrderModel" 191 ⟨"OutOrderModel", "solveAll", "()V"⟩ prog_14_method_57_code 3 none 0 := ⟨w_1024, w_1021, w_12, ⟨by decide, by decide⟩, by decide +kernel⟩
theorem fg_MD_13 {Z : jZ} {E : jE} {cc : ByteArray} {nL fR lR : Nat} {Q : State → Prop} {pc : Nat} {lv : List (Nat × Value)} {st : List Value} {I : jM} (C : jC Z E cc nL "OutOrderModel" fR lR) {i : Nat} (hi : jOB E 11 i) (d : decode cc pc = .ok (.getfield 13, 3)) (h : jJ Z E nL Q (pc + 3) lv (.int (I i 1) :: st) I) : jJ Z E nL Q pc lv (.ref (E.2.2.1 i) :: st) I := j_getI C jcl_MD hi (k := 1) (by decide) rfl (ref := "OutOrderModel") rfl w_730 d h
theorem fg_MD_176 {Z : jZ} {E : jE} {cc : ByteArray} {nL fR lR : Nat} {Q : State → Prop} {pc : Nat} {lv : List (Nat × Value)} {st : List Value} {I : jM} (C : jC Z E cc nL "OutOrderModel" fR lR) {i : Nat} (hi : jOB E 11 i) (d : decode cc pc = .ok (.getfield 176, 3)) (h : jJ Z E nL Q (pc + 3) lv (.int (I i 18) :: st) I) : jJ Z E nL Q pc lv (.ref (E.2.2.1 i) :: st) I := j_getI C jcl_MD hi (k := 18) (by decide) rfl (ref := "OutOrderModel") rfl w_747 d h
theorem fg_MD_63 {Z : jZ} {E : jE} {cc : ByteArray} {nL fR lR : Nat} {Q : State → Prop} {pc : Nat} {lv : List (Nat × Value)} {st : List Value} {I : jM} (C : jC Z E cc nL "OutOrderModel" fR lR) {i : Nat} (hi : jOB E 11 i) (d : decode cc pc = .ok (.getfield 63, 3)) (h : jJ Z E nL Q (pc + 3) lv (.ref (E.2.2.1 (jr i 20)) :: st) I) : jJ Z E nL Q pc lv (.ref (E.2.2.1 i) :: st) I := j_getR C jcl_MD hi (k := 20) (by decide) rfl (ref := "OutOrderModel") rfl w_749 d h
theorem fg_MD_72 {Z : jZ} {E : jE} {cc : ByteArray} {nL fR lR : Nat} {Q : State → Prop} {pc : Nat} {lv : List (Nat × Value)} {st : List Value} {I : jM} (C : jC Z E cc nL "OutOrderModel" fR lR) {i : Nat} (hi : jOB E 11 i) (d : decode cc pc = .ok (.getfield 72, 3)) (h : jJ Z E nL Q (pc + 3) lv (.ref (E.2.2.1 (jr i 23)) :: st) I) : jJ Z E nL Q pc lv (.ref (E.2.2.1 i) :: st) I := j_getR C jcl_MD hi (k := 23) (by decide) rfl (ref := "OutOrderModel") rfl w_752 d h
theorem fp_MD_176 {Z : jZ} {E : jE} {cc : ByteArray} {nL fR lR : Nat} {Q : State → Prop} {pc : Nat} {lv : List (Nat × Value)} {st : List Value} {I : jM} (C : jC Z E cc nL "OutOrderModel" fR lR) {i : Nat} {v : Int32} (hi : jOB E 11 i) (d : decode cc pc = .ok (.putfield 176, 3)) (h : jJ Z E nL Q (pc + 3) lv st (jwr I i 18 v)) : jJ Z E nL Q pc lv (.int v :: .ref (E.2.2.1 i) :: st) I := j_put C jcl_MD hi (k := 18) (by decide) rfl (ref := "OutOrderModel") rfl rfl w_747 rfl rfl d h
theorem fp_MD_60 {Z : jZ} {E : jE} {cc : ByteArray} {nL fR lR : Nat} {Q : State → Prop} {pc : Nat} {lv : List (Nat × Value)} {st : List Value} {I : jM} (C : jC Z E cc nL "OutOrderModel" fR lR) {i : Nat} {v : Int32} (hi : jOB E 11 i) (d : decode cc pc = .ok (.putfield 60, 3)) (h : jJ Z E nL Q (pc + 3) lv st (jwr I i 19 v)) : jJ Z E nL Q pc lv (.int v :: .ref (E.2.2.1 i) :: st) I := j_put C jcl_MD hi (k := 19) (by decide) rfl (ref := "OutOrderModel") rfl rfl w_748 rfl rfl d h
theorem cw_MD_185 : jcw "OutOrderModel" 185 ⟨"OutOrderModel", "placeOf", "(I)I"⟩ prog_14_method_51_code 3 (some .int) 1 := ⟨w_1000, w_997, w_12, ⟨by decide, by decide⟩, by decide +kernel⟩
theorem fg_MD_66 {Z : jZ} {E : jE} {cc : ByteArray} {nL fR lR : Nat} {Q : State → Prop} {pc : Nat} {lv : List (Nat × Value)} {st : List Value} {I : jM} (C : jC Z E cc nL "OutOrderModel" fR lR) {i : Nat} (hi : jOB E 11 i) (d : decode cc pc = .ok (.getfield 66, 3)) (h : jJ Z E nL Q (pc + 3) lv (.ref (E.2.2.1 (jr i 21)) :: st) I) : jJ Z E nL Q pc lv (.ref (E.2.2.1 i) :: st) I := j_getR C jcl_MD hi (k := 21) (by decide) rfl (ref := "OutOrderModel") rfl w_750 d h
theorem cw_MD_129 : jcw "OutOrderModel" 129 ⟨"OutOrderModel", "someHeld", "()Z"⟩ prog_14_method_12_code 3 (some .boolean) 0 := ⟨w_853, w_850, w_12, ⟨by decide, by decide⟩, by decide +kernel⟩
theorem cw_MD_83 : jcw "OutOrderModel" 83 ⟨"OutOrderModel", "notWorked", "()V"⟩ prog_14_method_47_code 1 none 0 := ⟨w_814, w_811, w_12, ⟨by decide, by decide⟩, by decide +kernel⟩
theorem cw_MD_133 : jcw "OutOrderModel" 133 ⟨"OutOrderModel", "byNumbers", "()V"⟩ prog_14_method_17_code 4 none 0 := ⟨w_857, w_854, w_12, ⟨by decide, by decide⟩, by decide +kernel⟩
theorem cw_MD_136 : jcw "OutOrderModel" 136 ⟨"OutOrderModel", "byFewest", "(Z)V"⟩ prog_14_method_18_code 10 none 1 := ⟨w_861, w_858, w_12, ⟨by decide, by decide⟩, by decide +kernel⟩
theorem cw_MD_139 : jcw "OutOrderModel" 139 ⟨"OutOrderModel", "bySearch", "()V"⟩ prog_14_method_19_code 6 none 0 := ⟨w_874, w_871, w_12, ⟨by decide, by decide⟩, by decide +kernel⟩
theorem cw_MD_142 : jcw "OutOrderModel" 142 ⟨"OutOrderModel", "byLeast", "(Z)V"⟩ prog_14_method_24_code 8 none 1 := ⟨w_878, w_875, w_12, ⟨by decide, by decide⟩, by decide +kernel⟩
theorem cw_MD_145 : jcw "OutOrderModel" 145 ⟨"OutOrderModel", "fills", "()I"⟩ prog_14_method_28_code 1 (some .int) 0 := ⟨w_898, w_895, w_12, ⟨by decide, by decide⟩, by decide +kernel⟩
theorem fg_MD_60 {Z : jZ} {E : jE} {cc : ByteArray} {nL fR lR : Nat} {Q : State → Prop} {pc : Nat} {lv : List (Nat × Value)} {st : List Value} {I : jM} (C : jC Z E cc nL "OutOrderModel" fR lR) {i : Nat} (hi : jOB E 11 i) (d : decode cc pc = .ok (.getfield 60, 3)) (h : jJ Z E nL Q (pc + 3) lv (.int (I i 19) :: st) I) : jJ Z E nL Q pc lv (.ref (E.2.2.1 i) :: st) I := j_getI C jcl_MD hi (k := 19) (by decide) rfl (ref := "OutOrderModel") rfl w_748 d h
theorem cw_MD_198 : jcw "OutOrderModel" 198 ⟨"OutOrderModel", "planFor", "(I)I"⟩ prog_14_method_60_code 8 (some .int) 1 := ⟨w_1036, w_1033, w_12, ⟨by decide, by decide⟩, by decide +kernel⟩
theorem cw_MD_194 : jcw "OutOrderModel" 194 ⟨"OutOrderModel", "mayBeDone", "(II)Z"⟩ prog_14_method_61_code 5 (some .boolean) 2 := ⟨w_1040, w_1037, w_12, ⟨by decide, by decide⟩, by decide +kernel⟩
theorem cw_MD_94 : jcw "OutOrderModel" 94 ⟨"OutOrderModel", "modulo", "(J)I"⟩ prog_14_method_7_code 5 (some .int) 1 := ⟨w_837, w_834, w_12, ⟨by decide, by decide⟩, by decide +kernel⟩
theorem cw_MD_86 : jcw "OutOrderModel" 86 ⟨"OutOrderModel", "begin", "()I"⟩ prog_14_method_39_code 2 (some .int) 0 := ⟨w_818, w_815, w_12, ⟨by decide, by decide⟩, by decide +kernel⟩
theorem fg_MD_30 {Z : jZ} {E : jE} {cc : ByteArray} {nL fR lR : Nat} {Q : State → Prop} {pc : Nat} {lv : List (Nat × Value)} {st : List Value} {I : jM} (C : jC Z E cc nL "OutOrderModel" fR lR) {i : Nat} (hi : jOB E 11 i) (d : decode cc pc = .ok (.getfield 30, 3)) (h : jJ Z E nL Q (pc + 3) lv (.ref (E.2.2.1 (jr i 6)) :: st) I) : jJ Z E nL Q pc lv (.ref (E.2.2.1 i) :: st) I := j_getR C jcl_MD hi (k := 6) (by decide) rfl (ref := "OutOrderModel") rfl w_735 d h
theorem cw_MD_157 : jcw "OutOrderModel" 157 ⟨"OutOrderModel", "steps", "(III)I"⟩ prog_14_method_36_code 9 (some .int) 3 := ⟨w_947, w_944, w_12, ⟨by decide, by decide⟩, by decide +kernel⟩
theorem fg_MD_27 {Z : jZ} {E : jE} {cc : ByteArray} {nL fR lR : Nat} {Q : State → Prop} {pc : Nat} {lv : List (Nat × Value)} {st : List Value} {I : jM} (C : jC Z E cc nL "OutOrderModel" fR lR) {i : Nat} (hi : jOB E 11 i) (d : decode cc pc = .ok (.getfield 27, 3)) (h : jJ Z E nL Q (pc + 3) lv (.ref (E.2.2.1 (jr i 5)) :: st) I) : jJ Z E nL Q pc lv (.ref (E.2.2.1 i) :: st) I := j_getR C jcl_MD hi (k := 5) (by decide) rfl (ref := "OutOrderModel") rfl w_734 d h
theorem cw_MD_182 : jcw "OutOrderModel" 182 ⟨"OutOrderModel", "inverse", "(I)I"⟩ prog_14_method_48_code 7 (some .int) 1 := ⟨w_992, w_989, w_12, ⟨by decide, by decide⟩, by decide +kernel⟩
theorem fp_MD_7 {Z : jZ} {E : jE} {cc : ByteArray} {nL fR lR : Nat} {Q : State → Prop} {pc : Nat} {lv : List (Nat × Value)} {st : List Value} {I : jM} (C : jC Z E cc nL "OutOrderModel" fR lR) {i : Nat} {v : Int32} (hi : jOB E 11 i) (d : decode cc pc = .ok (.putfield 7, 3)) (h : jJ Z E nL Q (pc + 3) lv st (jwr I i 0 v)) : jJ Z E nL Q pc lv (.int v :: .ref (E.2.2.1 i) :: st) I := j_put C jcl_MD hi (k := 0) (by decide) rfl (ref := "OutOrderModel") rfl rfl w_729 rfl rfl d h
theorem fp_MD_13 {Z : jZ} {E : jE} {cc : ByteArray} {nL fR lR : Nat} {Q : State → Prop} {pc : Nat} {lv : List (Nat × Value)} {st : List Value} {I : jM} (C : jC Z E cc nL "OutOrderModel" fR lR) {i : Nat} {v : Int32} (hi : jOB E 11 i) (d : decode cc pc = .ok (.putfield 13, 3)) (h : jJ Z E nL Q (pc + 3) lv st (jwr I i 1 v)) : jJ Z E nL Q pc lv (.int v :: .ref (E.2.2.1 i) :: st) I := j_put C jcl_MD hi (k := 1) (by decide) rfl (ref := "OutOrderModel") rfl rfl w_730 rfl rfl d h
theorem cw_MD_179 : jcw "OutOrderModel" 179 ⟨"OutOrderModel", "rest", "(III)I"⟩ prog_14_method_49_code 8 (some .int) 3 := ⟨w_988, w_985, w_12, ⟨by decide, by decide⟩, by decide +kernel⟩
end
section
/-- a contract out of a walk, also for a method of java.lang.Math that no native row stands for -/
theorem jMet_ofW {l : Launch} {y : MethodName} {ws ws' : List Cond} {rm : Room} {Pc : Array Value → State → Prop} {Qc : Array Value → State → Outcome → State → Prop} {mc ms : Nat} {free : Addr → Prop} {cc : ByteArray} {maxL : Nat} {ret : Option FieldType}
    (hy : plainFor y = true) (hw : ws = Cond.code y cc maxL ret :: ws')
    (body : ∀ p e s m args below meth c s₁, BodyLoose p l y (headSpec ws rm) cc maxL ret e s m args below meth c s₁ → c.maxLocals = maxL → Pc args s →
      W p l e (headSpec ws rm).room s m args below meth c s.heap [] 0 0 (MQ below Qc args s mc ms free) (entryFrame m args maxL)) : Met l y ws rm Pc Qc mc ms free := by
  refine MetFree.of_bodySF (code := cc) (maxLocals := maxL) (ret := ret) hy ?_ ?_
  · intro args s m h hn
    obtain ⟨meth, c, h1, h2, h3, h4, h5, h6, -, -⟩ := Cond.code_spec hn (atoms_spec (ws := ws) h _ (by rw [hw]; exact List.mem_cons_self))
    exact ⟨meth, c, h1, h2, h3, h4, h5, h6⟩
  · intro p e s m args below meth c s₁ B hml hP _
    have hh0 : s₁.heap = s.heap := by rw [B.state]; rfl
    obtain ⟨t, a1, o, b1, b2, b3⟩ := body p e s m args below meth c s₁ B hml hP s₁ hh0 (Stand.of_body B)
    exact ⟨t, o, a1, b1, b2, ⟨b3.1, b3.2⟩⟩
section JS
variable {l : Launch} {E : jE} {y : MethodName} {cc : ByteArray} {mL f L : Nat} {ret : Option FieldType} {as : List Value} {I : jM} {own : String}
theorem jS_ofF {Qc : Array Value → State → Outcome → State → Prop} (hy : plainFor y = true) (hown : y.cls = own) (hok : jOK E) (hlen : (lg_sl as).length ≤ mL)
    (body : ∀ Z : jZ, jZl Z = l → jC Z E cc mL own f L → (jZh Z).sig.returnType = ret → jJ Z E mL (MQ (jZb Z) Qc (jZa Z) (jZs Z) 0 0 (jA E)) 0 (lv_args 0 as) [] I) :
    Met l y (.code y cc mL ret :: jtbl) ({ frames := f, cells := 0, slots := 0, locals := L } : Room) (va_Pc as (jB E I)) Qc 0 0 (jA E) := by
  refine jMet_ofW (cc := cc) (maxL := mL) (ret := ret) hy rfl ?_
  intro p e s m args below meth c s₁ B hml hv
  obtain ⟨rfl, hP, hK, hN⟩ := hv
  have hts := atoms_spec (ws := .code y cc mL ret :: jtbl) B.pre
  have ho : s.vm.findClass own = some m.cls := hown ▸ findClass_of_methodNamed B.named
  have hl := lv_entry as (n := mL) hlen
  rw [lg_entry_eq]
  exact body (p, l, e, (headSpec (.code y cc mL ret :: jtbl) ({ frames := f, cells := 0, slots := 0, locals := L } : Room)).room, s, m, as.toArray, below, meth, c) rfl ⟨B.exec, B.bytes, hml, ho, fun w hw => hts w (List.mem_cons_of_mem _ hw), hK, hN, hok, B.notSynchronized, Nat.le_refl _, Nat.le_refl _⟩ B.returns _ s.heap [] hl hP va_S.rf
end JS
end
section
theorem d_JI_bitCount_0 : decode prog_15_method_49_code 0 = .ok (.iload_n 0, 1) := by decide +kernel
theorem d_JI_bitCount_1 : decode prog_15_method_49_code 1 = .ok (.iload_n 0, 1) := by decide +kernel
theorem d_JI_bitCount_2 : decode prog_15_method_49_code 2 = .ok (.iconst 1, 1) := by decide +kernel
theorem d_JI_bitCount_3 : decode prog_15_method_49_code 3 = .ok (.iushr, 1) := by decide +kernel
theorem d_JI_bitCount_4 : decode prog_15_method_49_code 4 = .ok (.ldc_w 265, 3) := by decide +kernel
theorem d_JI_bitCount_7 : decode prog_15_method_49_code 7 = .ok (.iand, 1) := by decide +kernel
theorem d_JI_bitCount_8 : decode prog_15_method_49_code 8 = .ok (.isub, 1) := by decide +kernel
theorem d_JI_bitCount_9 : decode prog_15_method_49_code 9 = .ok (.istore_n 0, 1) := by decide +kernel
theorem d_JI_bitCount_10 : decode prog_15_method_49_code 10 = .ok (.iload_n 0, 1) := by decide +kernel
theorem d_JI_bitCount_11 : decode prog_15_method_49_code 11 = .ok (.ldc_w 266, 3) := by decide +kernel
theorem d_JI_bitCount_14 : decode prog_15_method_49_code 14 = .ok (.iand, 1) := by decide +kernel
theorem d_JI_bitCount_15 : decode prog_15_method_49_code 15 = .ok (.iload_n 0, 1) := by decide +kernel
theorem d_JI_bitCount_16 : decode prog_15_method_49_code 16 = .ok (.iconst 2, 1) := by decide +kernel
theorem d_JI_bitCount_17 : decode prog_15_method_49_code 17 = .ok (.iushr, 1) := by decide +kernel
theorem d_JI_bitCount_18 : decode prog_15_method_49_code 18 = .ok (.ldc_w 266, 3) := by decide +kernel
theorem d_JI_bitCount_21 : decode prog_15_method_49_code 21 = .ok (.iand, 1) := by decide +kernel
theorem d_JI_bitCount_22 : decode prog_15_method_49_code 22 = .ok (.iadd, 1) := by decide +kernel
theorem d_JI_bitCount_23 : decode prog_15_method_49_code 23 = .ok (.istore_n 0, 1) := by decide +kernel
theorem d_JI_bitCount_24 : decode prog_15_method_49_code 24 = .ok (.iload_n 0, 1) := by decide +kernel
theorem d_JI_bitCount_25 : decode prog_15_method_49_code 25 = .ok (.iload_n 0, 1) := by decide +kernel
theorem d_JI_bitCount_26 : decode prog_15_method_49_code 26 = .ok (.iconst 4, 1) := by decide +kernel
theorem d_JI_bitCount_27 : decode prog_15_method_49_code 27 = .ok (.iushr, 1) := by decide +kernel
theorem d_JI_bitCount_28 : decode prog_15_method_49_code 28 = .ok (.iadd, 1) := by decide +kernel
theorem d_JI_bitCount_29 : decode prog_15_method_49_code 29 = .ok (.ldc_w 267, 3) := by decide +kernel
theorem d_JI_bitCount_32 : decode prog_15_method_49_code 32 = .ok (.iand, 1) := by decide +kernel
theorem d_JI_bitCount_33 : decode prog_15_method_49_code 33 = .ok (.istore_n 0, 1) := by decide +kernel
theorem d_JI_bitCount_34 : decode prog_15_method_49_code 34 = .ok (.iload_n 0, 1) := by decide +kernel
theorem d_JI_bitCount_35 : decode prog_15_method_49_code 35 = .ok (.iload_n 0, 1) := by decide +kernel
theorem d_JI_bitCount_36 : decode prog_15_method_49_code 36 = .ok (.bipush 8, 2) := by decide +kernel
theorem d_JI_bitCount_38 : decode prog_15_method_49_code 38 = .ok (.iushr, 1) := by decide +kernel
theorem d_JI_bitCount_39 : decode prog_15_method_49_code 39 = .ok (.iadd, 1) := by decide +kernel
theorem d_JI_bitCount_40 : decode prog_15_method_49_code 40 = .ok (.istore_n 0, 1) := by decide +kernel
theorem d_JI_bitCount_41 : decode prog_15_method_49_code 41 = .ok (.iload_n 0, 1) := by decide +kernel
theorem d_JI_bitCount_42 : decode prog_15_method_49_code 42 = .ok (.iload_n 0, 1) := by decide +kernel
theorem d_JI_bitCount_43 : decode prog_15_method_49_code 43 = .ok (.bipush 16, 2) := by decide +kernel
theorem d_JI_bitCount_45 : decode prog_15_method_49_code 45 = .ok (.iushr, 1) := by decide +kernel
theorem d_JI_bitCount_46 : decode prog_15_method_49_code 46 = .ok (.iadd, 1) := by decide +kernel
theorem d_JI_bitCount_47 : decode prog_15_method_49_code 47 = .ok (.istore_n 0, 1) := by decide +kernel
theorem d_JI_bitCount_48 : decode prog_15_method_49_code 48 = .ok (.iload_n 0, 1) := by decide +kernel
theorem d_JI_bitCount_49 : decode prog_15_method_49_code 49 = .ok (.bipush 63, 2) := by decide +kernel
theorem d_JI_bitCount_51 : decode prog_15_method_49_code 51 = .ok (.iand, 1) := by decide +kernel
theorem d_JI_bitCount_52 : decode prog_15_method_49_code 52 = .ok (.ireturn, 1) := by decide +kernel
/-- java/lang/Integer.bitCount(I)I -/
def JI_bitCount (v0 : Int32) (I : jM) (K : Int32 → Prop) : Prop :=
  (∀ v0_1 : Int32, v0_1 = (v0 - (((v0.toUInt32 >>> ((1 : Int32).toUInt32 &&& Int32.toUInt32 31)).toInt32) &&& (1431655765 : Int32))) → (∀ v0_2 : Int32, v0_2 = ((v0_1 &&& (858993459 : Int32)) + (((v0_1.toUInt32 >>> ((2 : Int32).toUInt32 &&& Int32.toUInt32 31)).toInt32) &&& (858993459 : Int32))) → (∀ v0_3 : Int32, v0_3 = ((v0_2 + ((v0_2.toUInt32 >>> ((4 : Int32).toUInt32 &&& Int32.toUInt32 31)).toInt32)) &&& (252645135 : Int32)) → (∀ v0_4 : Int32, v0_4 = (v0_3 + ((v0_3.toUInt32 >>> ((8 : Int32).toUInt32 &&& Int32.toUInt32 31)).toInt32)) → (∀ v0_5 : Int32, v0_5 = (v0_4 + ((v0_4.toUInt32 >>> ((16 : Int32).toUInt32 &&& Int32.toUInt32 31)).toInt32)) → K (v0_5 &&& (63 : Int32)))))))
set_option maxRecDepth 100000 in
set_option maxHeartbeats 4000000 in
theorem s_JI_bitCount {l : Launch} {E : jE} (ok : jOK E)  {v0 : Int32} {I : jM} {K : Int32 → Prop} (h : JI_bitCount v0 I K) : jSi l E ⟨"java/lang/Integer", "bitCount", "(I)I"⟩ prog_15_method_49_code 1 (some .int) 0 0 [.int v0] I (fun r I2 => I = I2 ∧ K r) := by
  refine jS_ofF (own := "java/lang/Integer") (by decide +kernel) rfl ok (Nat.le_of_ble_eq_true rfl) (fun Z _ C hr => ?_)
  show jJ Z E 1 (jQi Z E (fun r I2 => I = I2 ∧ K r)) 0 [(0, .int v0)] [] I
  unfold JI_bitCount at h
  refine j_iload_n C d_JI_bitCount_0 rfl 0 rfl ?_
  refine j_iload_n C d_JI_bitCount_1 rfl 0 rfl ?_
  refine j_iconst C d_JI_bitCount_2 ic_1 ?_
  refine j_iushr C d_JI_bitCount_3 ?_
  refine j_ldcw C (v := (1431655765 : Int32)) d_JI_bitCount_4 w_414 ?_
  refine j_iand C d_JI_bitCount_7 ?_
  refine j_isub C d_JI_bitCount_8 ?_
  refine j_topi (fun v0_1 ev0_1 => ?_)
  have h := h v0_1 ev0_1
  refine j_istore_n C d_JI_bitCount_9 rfl (by decide) (lv' := [(0, .int v0_1)]) rfl ?_
  refine j_iload_n C d_JI_bitCount_10 rfl 0 rfl ?_
  refine j_ldcw C (v := (858993459 : Int32)) d_JI_bitCount_11 w_415 ?_
  refine j_iand C d_JI_bitCount_14 ?_
  refine j_iload_n C d_JI_bitCount_15 rfl 0 rfl ?_
  refine j_iconst C d_JI_bitCount_16 ic_2 ?_
  refine j_iushr C d_JI_bitCount_17 ?_
  refine j_ldcw C (v := (858993459 : Int32)) d_JI_bitCount_18 w_415 ?_
  refine j_iand C d_JI_bitCount_21 ?_
  refine j_iadd C d_JI_bitCount_22 ?_
  refine j_topi (fun v0_2 ev0_2 => ?_)
  have h := h v0_2 ev0_2
  refine j_istore_n C d_JI_bitCount_23 rfl (by decide) (lv' := [(0, .int v0_2)]) rfl ?_
  refine j_iload_n C d_JI_bitCount_24 rfl 0 rfl ?_
  refine j_iload_n C d_JI_bitCount_25 rfl 0 rfl ?_
  refine j_iconst C d_JI_bitCount_26 ic_4 ?_
  refine j_iushr C d_JI_bitCount_27 ?_
  refine j_iadd C d_JI_bitCount_28 ?_
  refine j_ldcw C (v := (252645135 : Int32)) d_JI_bitCount_29 w_416 ?_
  refine j_iand C d_JI_bitCount_32 ?_
  refine j_topi (fun v0_3 ev0_3 => ?_)
  have h := h v0_3 ev0_3
  refine j_istore_n C d_JI_bitCount_33 rfl (by decide) (lv' := [(0, .int v0_3)]) rfl ?_
  refine j_iload_n C d_JI_bitCount_34 rfl 0 rfl ?_
  refine j_iload_n C d_JI_bitCount_35 rfl 0 rfl ?_
  refine j_bipush C d_JI_bitCount_36 ib_8 ?_
  refine j_iushr C d_JI_bitCount_38 ?_
  refine j_iadd C d_JI_bitCount_39 ?_
  refine j_topi (fun v0_4 ev0_4 => ?_)
  have h := h v0_4 ev0_4
  refine j_istore_n C d_JI_bitCount_40 rfl (by decide) (lv' := [(0, .int v0_4)]) rfl ?_
  refine j_iload_n C d_JI_bitCount_41 rfl 0 rfl ?_
  refine j_iload_n C d_JI_bitCount_42 rfl 0 rfl ?_
  refine j_bipush C d_JI_bitCount_43 ib_16 ?_
  refine j_iushr C d_JI_bitCount_45 ?_
  refine j_iadd C d_JI_bitCount_46 ?_
  refine j_topi (fun v0_5 ev0_5 => ?_)
  have h := h v0_5 ev0_5
  refine j_istore_n C d_JI_bitCount_47 rfl (by decide) (lv' := [(0, .int v0_5)]) rfl ?_
  refine j_iload_n C d_JI_bitCount_48 rfl 0 rfl ?_
  refine j_bipush C d_JI_bitCount_49 ib_63 ?_
  refine j_iand C d_JI_bitCount_51 ?_
  exact j_iret C hr d_JI_bitCount_52 ⟨rfl, h⟩
end
section
theorem d_JM_floorMod_0 : decode prog_16_method_50_code 0 = .ok (.iload_n 0, 1) := by decide +kernel
theorem d_JM_floorMod_1 : decode prog_16_method_50_code 1 = .ok (.iload_n 1, 1) := by decide +kernel
theorem d_JM_floorMod_2 : decode prog_16_method_50_code 2 = .ok (.irem, 1) := by decide +kernel
theorem d_JM_floorMod_3 : decode prog_16_method_50_code 3 = .ok (.istore_n 2, 1) := by decide +kernel
theorem d_JM_floorMod_4 : decode prog_16_method_50_code 4 = .ok (.iload_n 0, 1) := by decide +kernel
theorem d_JM_floorMod_5 : decode prog_16_method_50_code 5 = .ok (.iload_n 1, 1) := by decide +kernel
theorem d_JM_floorMod_6 : decode prog_16_method_50_code 6 = .ok (.ixor, 1) := by decide +kernel
theorem d_JM_floorMod_7 : decode prog_16_method_50_code 7 = .ok (.ifCond .ge 11, 3) := by decide +kernel
theorem d_JM_floorMod_10 : decode prog_16_method_50_code 10 = .ok (.iload_n 2, 1) := by decide +kernel
theorem d_JM_floorMod_11 : decode prog_16_method_50_code 11 = .ok (.ifCond .eq 7, 3) := by decide +kernel
theorem d_JM_floorMod_14 : decode prog_16_method_50_code 14 = .ok (.iload_n 2, 1) := by decide +kernel
theorem d_JM_floorMod_15 : decode prog_16_method_50_code 15 = .ok (.iload_n 1, 1) := by decide +kernel
theorem d_JM_floorMod_16 : decode prog_16_method_50_code 16 = .ok (.iadd, 1) := by decide +kernel
theorem d_JM_floorMod_17 : decode prog_16_method_50_code 17 = .ok (.ireturn, 1) := by decide +kernel
theorem d_JM_floorMod_18 : decode prog_16_method_50_code 18 = .ok (.iload_n 2, 1) := by decide +kernel
theorem d_JM_floorMod_19 : decode prog_16_method_50_code 19 = .ok (.ireturn, 1) := by decide +kernel
/-- java/lang/Math.floorMod(II)I -/
def JM_floorMod (v0 : Int32) (v1 : Int32) (I : jM) (K : Int32 → Prop) : Prop :=
  (¬ v1 = 0 ∧ (∀ v2_1 : Int32, v2_1 = (v0 - v0 / v1 * v1) → ((0 ≤ (v0 ^^^ v1) → K v2_1) ∧ (¬ 0 ≤ (v0 ^^^ v1) → ((v2_1 = 0 → K v2_1) ∧ (¬ v2_1 = 0 → K (v2_1 + v1)))))))
set_option maxRecDepth 100000 in
set_option maxHeartbeats 4000000 in
theorem s_JM_floorMod {l : Launch} {E : jE} (ok : jOK E)  {v0 : Int32} {v1 : Int32} {I : jM} {K : Int32 → Prop} (h : JM_floorMod v0 v1 I K) : jSi l E ⟨"java/lang/Math", "floorMod", "(II)I"⟩ prog_16_method_50_code 3 (some .int) 0 0 [.int v0, .int v1] I (fun r I2 => I = I2 ∧ K r) := by
  refine jS_ofF (own := "java/lang/Math") (by decide +kernel) rfl ok (Nat.le_of_ble_eq_true rfl) (fun Z _ C hr => ?_)
  show jJ Z E 3 (jQi Z E (fun r I2 => I = I2 ∧ K r)) 0 [(0, .int v0), (1, .int v1)] [] I
  unfold JM_floorMod at h
  refine j_iload_n C d_JM_floorMod_0 rfl 0 rfl ?_
  refine j_iload_n C d_JM_floorMod_1 rfl 1 rfl ?_
  obtain ⟨hn, h⟩ := h
  refine j_irem C d_JM_floorMod_2 hn ?_
  refine j_topi (fun v2_1 ev2_1 => ?_)
  have h := h v2_1 ev2_1
  refine j_istore_n C d_JM_floorMod_3 rfl (by decide) (lv' := [(2, .int v2_1), (0, .int v0), (1, .int v1)]) rfl ?_
  refine j_iload_n C d_JM_floorMod_4 rfl 1 rfl ?_
  refine j_iload_n C d_JM_floorMod_5 rfl 2 rfl ?_
  refine j_ixor C d_JM_floorMod_6 ?_
  refine j_if_ge C d_JM_floorMod_7 (tgt := 18) (by decide) (fun c7 => ?_) (fun c7 => ?_)
  · have h := h.1 c7
    refine j_iload_n C d_JM_floorMod_18 rfl 0 rfl ?_
    exact j_iret C hr d_JM_floorMod_19 ⟨rfl, h⟩
  · have h := h.2 c7
    refine j_iload_n C d_JM_floorMod_10 rfl 0 rfl ?_
    refine j_if_eq C d_JM_floorMod_11 (tgt := 18) (by decide) (fun c11 => ?_) (fun c11 => ?_)
    · have h := h.1 c11
      refine j_iload_n C d_JM_floorMod_18 rfl 0 rfl ?_
      exact j_iret C hr d_JM_floorMod_19 ⟨rfl, h⟩
    · have h := h.2 c11
      refine j_iload_n C d_JM_floorMod_14 rfl 0 rfl ?_
      refine j_iload_n C d_JM_floorMod_15 rfl 2 rfl ?_
      refine j_iadd C d_JM_floorMod_16 ?_
      exact j_iret C hr d_JM_floorMod_17 ⟨rfl, h⟩
theorem d_JM_max_0 : decode prog_16_method_65_code 0 = .ok (.iload_n 0, 1) := by decide +kernel
theorem d_JM_max_1 : decode prog_16_method_65_code 1 = .ok (.iload_n 1, 1) := by decide +kernel
theorem d_JM_max_2 : decode prog_16_method_65_code 2 = .ok (.if_icmp .lt 7, 3) := by decide +kernel
theorem d_JM_max_5 : decode prog_16_method_65_code 5 = .ok (.iload_n 0, 1) := by decide +kernel
theorem d_JM_max_6 : decode prog_16_method_65_code 6 = .ok (.goto 4, 3) := by decide +kernel
theorem d_JM_max_9 : decode prog_16_method_65_code 9 = .ok (.iload_n 1, 1) := by decide +kernel
theorem d_JM_max_10 : decode prog_16_method_65_code 10 = .ok (.ireturn, 1) := by decide +kernel
/-- java/lang/Math.max(II)I -/
def JM_max (v0 : Int32) (v1 : Int32) (I : jM) (K : Int32 → Prop) : Prop :=
  ((v0 < v1 → K v1) ∧ (¬ v0 < v1 → K v0))
set_option maxRecDepth 100000 in
set_option maxHeartbeats 4000000 in
theorem s_JM_max {l : Launch} {E : jE} (ok : jOK E)  {v0 : Int32} {v1 : Int32} {I : jM} {K : Int32 → Prop} (h : JM_max v0 v1 I K) : jSi l E ⟨"java/lang/Math", "max", "(II)I"⟩ prog_16_method_65_code 2 (some .int) 0 0 [.int v0, .int v1] I (fun r I2 => I = I2 ∧ K r) := by
  refine jS_ofF (own := "java/lang/Math") (by decide +kernel) rfl ok (Nat.le_of_ble_eq_true rfl) (fun Z _ C hr => ?_)
  show jJ Z E 2 (jQi Z E (fun r I2 => I = I2 ∧ K r)) 0 [(0, .int v0), (1, .int v1)] [] I
  unfold JM_max at h
  refine j_iload_n C d_JM_max_0 rfl 0 rfl ?_
  refine j_iload_n C d_JM_max_1 rfl 1 rfl ?_
  refine j_icmp_lt C d_JM_max_2 (tgt := 9) (by decide) (fun c2 => ?_) (fun c2 => ?_)
  · have h := h.1 c2
    refine j_iload_n C d_JM_max_9 rfl 1 rfl ?_
    exact j_iret C hr d_JM_max_10 ⟨rfl, h⟩
  · have h := h.2 c2
    refine j_iload_n C d_JM_max_5 rfl 0 rfl ?_
    refine j_goto C d_JM_max_6 (tgt := 10) (by decide) ?_
    exact j_iret C hr d_JM_max_10 ⟨rfl, h⟩
theorem d_JM_min_0 : decode prog_16_method_69_code 0 = .ok (.iload_n 0, 1) := by decide +kernel
theorem d_JM_min_1 : decode prog_16_method_69_code 1 = .ok (.iload_n 1, 1) := by decide +kernel
theorem d_JM_min_2 : decode prog_16_method_69_code 2 = .ok (.if_icmp .gt 7, 3) := by decide +kernel
theorem d_JM_min_5 : decode prog_16_method_69_code 5 = .ok (.iload_n 0, 1) := by decide +kernel
theorem d_JM_min_6 : decode prog_16_method_69_code 6 = .ok (.goto 4, 3) := by decide +kernel
theorem d_JM_min_9 : decode prog_16_method_69_code 9 = .ok (.iload_n 1, 1) := by decide +kernel
theorem d_JM_min_10 : decode prog_16_method_69_code 10 = .ok (.ireturn, 1) := by decide +kernel
/-- java/lang/Math.min(II)I -/
def JM_min (v0 : Int32) (v1 : Int32) (I : jM) (K : Int32 → Prop) : Prop :=
  ((v1 < v0 → K v1) ∧ (¬ v1 < v0 → K v0))
set_option maxRecDepth 100000 in
set_option maxHeartbeats 4000000 in
theorem s_JM_min {l : Launch} {E : jE} (ok : jOK E)  {v0 : Int32} {v1 : Int32} {I : jM} {K : Int32 → Prop} (h : JM_min v0 v1 I K) : jSi l E ⟨"java/lang/Math", "min", "(II)I"⟩ prog_16_method_69_code 2 (some .int) 0 0 [.int v0, .int v1] I (fun r I2 => I = I2 ∧ K r) := by
  refine jS_ofF (own := "java/lang/Math") (by decide +kernel) rfl ok (Nat.le_of_ble_eq_true rfl) (fun Z _ C hr => ?_)
  show jJ Z E 2 (jQi Z E (fun r I2 => I = I2 ∧ K r)) 0 [(0, .int v0), (1, .int v1)] [] I
  unfold JM_min at h
  refine j_iload_n C d_JM_min_0 rfl 0 rfl ?_
  refine j_iload_n C d_JM_min_1 rfl 1 rfl ?_
  refine j_icmp_gt C d_JM_min_2 (tgt := 9) (by decide) (fun c2 => ?_) (fun c2 => ?_)
  · have h := h.1 c2
    refine j_iload_n C d_JM_min_9 rfl 1 rfl ?_
    exact j_iret C hr d_JM_min_10 ⟨rfl, h⟩
  · have h := h.2 c2
    refine j_iload_n C d_JM_min_5 rfl 0 rfl ?_
    refine j_goto C d_JM_min_6 (tgt := 10) (by decide) ?_
    exact j_iret C hr d_JM_min_10 ⟨rfl, h⟩
end
section
theorem d_MO_reduce_0 : decode prog_5_method_3_code 0 = .ok (.aload_n 0, 1) := by decide +kernel
theorem d_MO_reduce_1 : decode prog_5_method_3_code 1 = .ok (.getfield 9, 3) := by decide +kernel
theorem d_MO_reduce_4 : decode prog_5_method_3_code 4 = .ok (.iconst 1, 1) := by decide +kernel
theorem d_MO_reduce_5 : decode prog_5_method_3_code 5 = .ok (.if_icmp .le 14, 3) := by decide +kernel
theorem d_MO_reduce_8 : decode prog_5_method_3_code 8 = .ok (.iload_n 1, 1) := by decide +kernel
theorem d_MO_reduce_9 : decode prog_5_method_3_code 9 = .ok (.aload_n 0, 1) := by decide +kernel
theorem d_MO_reduce_10 : decode prog_5_method_3_code 10 = .ok (.getfield 9, 3) := by decide +kernel
theorem d_MO_reduce_13 : decode prog_5_method_3_code 13 = .ok (.invokestatic 15, 3) := by decide +kernel
theorem d_MO_reduce_16 : decode prog_5_method_3_code 16 = .ok (.goto 4, 3) := by decide +kernel
theorem d_MO_reduce_19 : decode prog_5_method_3_code 19 = .ok (.iconst 0, 1) := by decide +kernel
theorem d_MO_reduce_20 : decode prog_5_method_3_code 20 = .ok (.ireturn, 1) := by decide +kernel
/-- OutOrder$Modulus.reduce(I)I -/
def MO_reduce (h0 : Nat) (v1 : Int32) (I : jM) (K : Int32 → Prop) : Prop :=
  (((I h0 0) ≤ (1 : Int32) → K (0 : Int32)) ∧ (¬ (I h0 0) ≤ (1 : Int32) → JM_floorMod v1 (I h0 0) I (fun r_1 => K r_1)))
set_option maxRecDepth 100000 in
set_option maxHeartbeats 4000000 in
theorem s_MO_reduce {l : Launch} {E : jE} (ok : jOK E)  {h0 : Nat} {v1 : Int32} (g_h0 : jOB E 3 h0) {I : jM} {K : Int32 → Prop} (h : MO_reduce h0 v1 I K) : jSi l E ⟨"OutOrder$Modulus", "reduce", "(I)I"⟩ prog_5_method_3_code 2 (some .int) 1 22 [.ref (E.2.2.1 h0), .int v1] I (fun r I2 => I = I2 ∧ K r) := by
  refine jS_ofF (own := "OutOrder$Modulus") (by decide +kernel) rfl ok (Nat.le_of_ble_eq_true rfl) (fun Z _ C hr => ?_)
  show jJ Z E 2 (jQi Z E (fun r I2 => I = I2 ∧ K r)) 0 [(0, .ref (E.2.2.1 h0)), (1, .int v1)] [] I
  unfold MO_reduce at h
  refine j_aload_n C d_MO_reduce_0 rfl 0 rfl ?_
  refine fg_MO_9 C g_h0 d_MO_reduce_1 ?_
  refine j_iconst C d_MO_reduce_4 ic_1 ?_
  refine j_icmp_le C d_MO_reduce_5 (tgt := 19) (by decide) (fun c5 => ?_) (fun c5 => ?_)
  · have h := h.1 c5
    refine j_iconst C d_MO_reduce_19 ic_0 ?_
    exact j_iret C hr d_MO_reduce_20 ⟨rfl, h⟩
  · have h := h.2 c5
    refine j_iload_n C d_MO_reduce_8 rfl 1 rfl ?_
    refine j_aload_n C d_MO_reduce_9 rfl 0 rfl ?_
    refine fg_MO_9 C g_h0 d_MO_reduce_10 ?_
    refine j_callSi (As := [.int v1, .int (I h0 0)]) C cw_MO_15 w_374 rfl rfl (by decide) (by decide) (Nat.le_of_ble_eq_true rfl) d_MO_reduce_13 (s_JM_floorMod C.ok  h) (fun r_1 I2 h => ?_)
    obtain ⟨rfl, h⟩ := h
    refine j_goto C d_MO_reduce_16 (tgt := 20) (by decide) ?_
    exact j_iret C hr d_MO_reduce_20 ⟨rfl, h⟩
theorem d_MO_times_0 : decode prog_5_method_4_code 0 = .ok (.aload_n 0, 1) := by decide +kernel
theorem d_MO_times_1 : decode prog_5_method_4_code 1 = .ok (.iload_n 1, 1) := by decide +kernel
theorem d_MO_times_2 : decode prog_5_method_4_code 2 = .ok (.iload_n 2, 1) := by decide +kernel
theorem d_MO_times_3 : decode prog_5_method_4_code 3 = .ok (.imul, 1) := by decide +kernel
theorem d_MO_times_4 : decode prog_5_method_4_code 4 = .ok (.invokevirtual 21, 3) := by decide +kernel
theorem d_MO_times_7 : decode prog_5_method_4_code 7 = .ok (.ireturn, 1) := by decide +kernel
/-- OutOrder$Modulus.times(II)I -/
def MO_times (h0 : Nat) (v1 : Int32) (v2 : Int32) (I : jM) (K : Int32 → Prop) : Prop :=
  MO_reduce h0 (v1 * v2) I (fun r_1 => K r_1)
set_option maxRecDepth 100000 in
set_option maxHeartbeats 4000000 in
theorem s_MO_times {l : Launch} {E : jE} (ok : jOK E)  {h0 : Nat} {v1 : Int32} {v2 : Int32} (g_h0 : jOB E 3 h0) {I : jM} {K : Int32 → Prop} (h : MO_times h0 v1 v2 I K) : jSi l E ⟨"OutOrder$Modulus", "times", "(II)I"⟩ prog_5_method_4_code 3 (some .int) 2 43 [.ref (E.2.2.1 h0), .int v1, .int v2] I (fun r I2 => I = I2 ∧ K r) := by
  refine jS_ofF (own := "OutOrder$Modulus") (by decide +kernel) rfl ok (Nat.le_of_ble_eq_true rfl) (fun Z _ C hr => ?_)
  show jJ Z E 3 (jQi Z E (fun r I2 => I = I2 ∧ K r)) 0 [(0, .ref (E.2.2.1 h0)), (1, .int v1), (2, .int v2)] [] I
  unfold MO_times at h
  refine j_aload_n C d_MO_times_0 rfl 0 rfl ?_
  refine j_iload_n C d_MO_times_1 rfl 1 rfl ?_
  refine j_iload_n C d_MO_times_2 rfl 2 rfl ?_
  refine j_imul C d_MO_times_3 ?_
  refine j_callVi (As := [.int (v1 * v2)]) C jcl_MO cw_MO_21 w_370 w_371 g_h0 rfl rfl (by decide) (by decide) (Nat.le_of_ble_eq_true rfl) d_MO_times_4 (s_MO_reduce C.ok g_h0 h) (fun r_1 I2 h => ?_)
  obtain ⟨rfl, h⟩ := h
  exact j_iret C hr d_MO_times_7 ⟨rfl, h⟩
theorem d_MO_inverse_0 : decode prog_5_method_5_code 0 = .ok (.iconst 1, 1) := by decide +kernel
theorem d_MO_inverse_1 : decode prog_5_method_5_code 1 = .ok (.istore_n 2, 1) := by decide +kernel
theorem d_MO_inverse_2 : decode prog_5_method_5_code 2 = .ok (.iload_n 1, 1) := by decide +kernel
theorem d_MO_inverse_3 : decode prog_5_method_5_code 3 = .ok (.istore_n 3, 1) := by decide +kernel
theorem d_MO_inverse_4 : decode prog_5_method_5_code 4 = .ok (.aload_n 0, 1) := by decide +kernel
theorem d_MO_inverse_5 : decode prog_5_method_5_code 5 = .ok (.getfield 9, 3) := by decide +kernel
theorem d_MO_inverse_8 : decode prog_5_method_5_code 8 = .ok (.iconst 2, 1) := by decide +kernel
theorem d_MO_inverse_9 : decode prog_5_method_5_code 9 = .ok (.isub, 1) := by decide +kernel
theorem d_MO_inverse_10 : decode prog_5_method_5_code 10 = .ok (.istore 4, 2) := by decide +kernel
theorem d_MO_inverse_12 : decode prog_5_method_5_code 12 = .ok (.iload 4, 2) := by decide +kernel
theorem d_MO_inverse_14 : decode prog_5_method_5_code 14 = .ok (.ifCond .le 34, 3) := by decide +kernel
theorem d_MO_inverse_17 : decode prog_5_method_5_code 17 = .ok (.iload 4, 2) := by decide +kernel
theorem d_MO_inverse_19 : decode prog_5_method_5_code 19 = .ok (.iconst 1, 1) := by decide +kernel
theorem d_MO_inverse_20 : decode prog_5_method_5_code 20 = .ok (.iand, 1) := by decide +kernel
theorem d_MO_inverse_21 : decode prog_5_method_5_code 21 = .ok (.iconst 1, 1) := by decide +kernel
theorem d_MO_inverse_22 : decode prog_5_method_5_code 22 = .ok (.if_icmp .ne 10, 3) := by decide +kernel
theorem d_MO_inverse_25 : decode prog_5_method_5_code 25 = .ok (.aload_n 0, 1) := by decide +kernel
theorem d_MO_inverse_26 : decode prog_5_method_5_code 26 = .ok (.iload_n 2, 1) := by decide +kernel
theorem d_MO_inverse_27 : decode prog_5_method_5_code 27 = .ok (.iload_n 3, 1) := by decide +kernel
theorem d_MO_inverse_28 : decode prog_5_method_5_code 28 = .ok (.invokevirtual 25, 3) := by decide +kernel
theorem d_MO_inverse_31 : decode prog_5_method_5_code 31 = .ok (.istore_n 2, 1) := by decide +kernel
theorem d_MO_inverse_32 : decode prog_5_method_5_code 32 = .ok (.aload_n 0, 1) := by decide +kernel
theorem d_MO_inverse_33 : decode prog_5_method_5_code 33 = .ok (.iload_n 3, 1) := by decide +kernel
theorem d_MO_inverse_34 : decode prog_5_method_5_code 34 = .ok (.iload_n 3, 1) := by decide +kernel
theorem d_MO_inverse_35 : decode prog_5_method_5_code 35 = .ok (.invokevirtual 25, 3) := by decide +kernel
theorem d_MO_inverse_38 : decode prog_5_method_5_code 38 = .ok (.istore_n 3, 1) := by decide +kernel
theorem d_MO_inverse_39 : decode prog_5_method_5_code 39 = .ok (.iload 4, 2) := by decide +kernel
theorem d_MO_inverse_41 : decode prog_5_method_5_code 41 = .ok (.iconst 1, 1) := by decide +kernel
theorem d_MO_inverse_42 : decode prog_5_method_5_code 42 = .ok (.ishr, 1) := by decide +kernel
theorem d_MO_inverse_43 : decode prog_5_method_5_code 43 = .ok (.istore 4, 2) := by decide +kernel
theorem d_MO_inverse_45 : decode prog_5_method_5_code 45 = .ok (.goto (-33), 3) := by decide +kernel
theorem d_MO_inverse_48 : decode prog_5_method_5_code 48 = .ok (.iload_n 1, 1) := by decide +kernel
theorem d_MO_inverse_49 : decode prog_5_method_5_code 49 = .ok (.ifCond .ne 7, 3) := by decide +kernel
theorem d_MO_inverse_52 : decode prog_5_method_5_code 52 = .ok (.iconst 0, 1) := by decide +kernel
theorem d_MO_inverse_53 : decode prog_5_method_5_code 53 = .ok (.goto 4, 3) := by decide +kernel
theorem d_MO_inverse_56 : decode prog_5_method_5_code 56 = .ok (.iload_n 2, 1) := by decide +kernel
theorem d_MO_inverse_57 : decode prog_5_method_5_code 57 = .ok (.ireturn, 1) := by decide +kernel
def MO_inverse_32 (h0 : Nat) (v1 : Int32) (v2 : Int32) (v3 : Int32) (v4 : Int32) (I : jM) (K : Int32 → Prop) (X12 : Int32 × Int32 × Int32 → Prop) : Prop :=
  MO_times h0 v3 v3 I (fun r_1 => (∀ v4_2 : Int32, v4_2 = (v4 >>> ((1 : Int32) &&& 31)) → X12 (v2, r_1, v4_2)))
set_option maxRecDepth 100000 in
set_option maxHeartbeats 4000000 in
theorem k_MO_inverse_32 {Z : jZ} {E : jE} (C : jC Z E prog_5_method_5_code 5 "OutOrder$Modulus" 3 65) (hr : (jZh Z).sig.returnType = (some .int))  (h0 : Nat) (v1 : Int32) (v2 : Int32) (v3 : Int32) (v4 : Int32) (I : jM) (g_h0 : jOB E 3 h0) {K : Int32 → Prop} {X12 : Int32 × Int32 × Int32 → Prop} (hX12 : ∀ s : Int32 × Int32 × Int32, X12 s → jJ Z E 5 (jQi Z E (fun r I2 => I = I2 ∧ K r)) 12 [(0, .ref (E.2.2.1 h0)), (1, .int v1), (2, .int s.1), (3, .int s.2.1), (4, .int s.2.2)] [] I) (h : MO_inverse_32 h0 v1 v2 v3 v4 I K X12) : jJ Z E 5 (jQi Z E (fun r I2 => I = I2 ∧ K r)) 32 [(0, .ref (E.2.2.1 h0)), (1, .int v1), (2, .int v2), (3, .int v3), (4, .int v4)] [] I := by
  unfold MO_inverse_32 at h
  refine j_aload_n C d_MO_inverse_32 rfl 0 rfl ?_
  refine j_iload_n C d_MO_inverse_33 rfl 3 rfl ?_
  refine j_iload_n C d_MO_inverse_34 rfl 3 rfl ?_
  refine j_callVi (As := [.int v3, .int v3]) C jcl_MO cw_MO_25 w_634 w_635 g_h0 rfl rfl (by decide) (by decide) (Nat.le_of_ble_eq_true rfl) d_MO_inverse_35 (s_MO_times C.ok g_h0 h) (fun r_1 I2 h => ?_)
  obtain ⟨rfl, h⟩ := h
  refine j_istore_n C d_MO_inverse_38 rfl (by decide) (lv' := [(3, .int r_1), (0, .ref (E.2.2.1 h0)), (1, .int v1), (2, .int v2), (4, .int v4)]) rfl ?_
  refine j_iload C d_MO_inverse_39 4 rfl ?_
  refine j_iconst C d_MO_inverse_41 ic_1 ?_
  refine j_ishr C d_MO_inverse_42 ?_
  refine j_topi (fun v4_2 ev4_2 => ?_)
  have h := h v4_2 ev4_2
  refine j_istore C d_MO_inverse_43 (by decide) (lv' := [(4, .int v4_2), (3, .int r_1), (0, .ref (E.2.2.1 h0)), (1, .int v1), (2, .int v2)]) rfl ?_
  refine j_goto C d_MO_inverse_45 (tgt := 12) (by decide) ?_
  refine j_lv [2, 3, 4, 1, 0] rfl ?_
  exact hX12 (v2, r_1, v4_2) h
def MO_inverse_12b (h0 : Nat) (v1 : Int32) (v2 : Int32) (v3 : Int32) (v4 : Int32) (I : jM) (K : Int32 → Prop) (X12 : Int32 × Int32 × Int32 → Prop) : Prop :=
  ((v4 ≤ 0 → ((¬ v1 = 0 → K v2) ∧ (v1 = 0 → K (0 : Int32)))) ∧ (¬ v4 ≤ 0 → ((¬ (v4 &&& (1 : Int32)) = (1 : Int32) → MO_inverse_32 h0 v1 v2 v3 v4 I K X12) ∧ ((v4 &&& (1 : Int32)) = (1 : Int32) → MO_times h0 v2 v3 I (fun r_1 => MO_inverse_32 h0 v1 r_1 v3 v4 I K X12)))))
def MO_inverse_12 (h0 : Nat) (v1 : Int32) (v2 : Int32) (v3 : Int32) (v4 : Int32) (I : jM) (K : Int32 → Prop) : Prop :=
  lp (fun (X12 : Int32 × Int32 × Int32 → Prop) (s : Int32 × Int32 × Int32) => MO_inverse_12b h0 v1 s.1 s.2.1 s.2.2 I K X12) (v2, v3, v4)
set_option maxRecDepth 100000 in
set_option maxHeartbeats 4000000 in
theorem kb_MO_inverse_12 {Z : jZ} {E : jE} (C : jC Z E prog_5_method_5_code 5 "OutOrder$Modulus" 3 65) (hr : (jZh Z).sig.returnType = (some .int))  (h0 : Nat) (v1 : Int32) (v2 : Int32) (v3 : Int32) (v4 : Int32) (I : jM) (g_h0 : jOB E 3 h0) {K : Int32 → Prop} {X12 : Int32 × Int32 × Int32 → Prop} (hX12 : ∀ s : Int32 × Int32 × Int32, X12 s → jJ Z E 5 (jQi Z E (fun r I2 => I = I2 ∧ K r)) 12 [(0, .ref (E.2.2.1 h0)), (1, .int v1), (2, .int s.1), (3, .int s.2.1), (4, .int s.2.2)] [] I) (h : MO_inverse_12b h0 v1 v2 v3 v4 I K X12) : jJ Z E 5 (jQi Z E (fun r I2 => I = I2 ∧ K r)) 12 [(0, .ref (E.2.2.1 h0)), (1, .int v1), (2, .int v2), (3, .int v3), (4, .int v4)] [] I := by
  unfold MO_inverse_12b at h
  refine j_iload C d_MO_inverse_12 4 rfl ?_
  refine j_if_le C d_MO_inverse_14 (tgt := 48) (by decide) (fun c14 => ?_) (fun c14 => ?_)
  · have h := h.1 c14
    refine j_iload_n C d_MO_inverse_48 rfl 1 rfl ?_
    refine j_if_ne C d_MO_inverse_49 (tgt := 56) (by decide) (fun c49 => ?_) (fun c49 => ?_)
    · have h := h.1 c49
      refine j_iload_n C d_MO_inverse_56 rfl 2 rfl ?_
      exact j_iret C hr d_MO_inverse_57 ⟨rfl, h⟩
    · have h := h.2 c49
      refine j_iconst C d_MO_inverse_52 ic_0 ?_
      refine j_goto C d_MO_inverse_53 (tgt := 57) (by decide) ?_
      exact j_iret C hr d_MO_inverse_57 ⟨rfl, h⟩
  · have h := h.2 c14
    refine j_iload C d_MO_inverse_17 4 rfl ?_
    refine j_iconst C d_MO_inverse_19 ic_1 ?_
    refine j_iand C d_MO_inverse_20 ?_
    refine j_iconst C d_MO_inverse_21 ic_1 ?_
    refine j_icmp_ne C d_MO_inverse_22 (tgt := 32) (by decide) (fun c22 => ?_) (fun c22 => ?_)
    · have h := h.1 c22
      refine j_lv [0, 1, 2, 3, 4] rfl ?_
      exact k_MO_inverse_32 C hr h0 v1 v2 v3 v4 I g_h0 hX12 h
    · have h := h.2 c22
      refine j_aload_n C d_MO_inverse_25 rfl 0 rfl ?_
      refine j_iload_n C d_MO_inverse_26 rfl 2 rfl ?_
      refine j_iload_n C d_MO_inverse_27 rfl 3 rfl ?_
      refine j_callVi (As := [.int v2, .int v3]) C jcl_MO cw_MO_25 w_634 w_635 g_h0 rfl rfl (by decide) (by decide) (Nat.le_of_ble_eq_true rfl) d_MO_inverse_28 (s_MO_times C.ok g_h0 h) (fun r_1 I2 h => ?_)
      obtain ⟨rfl, h⟩ := h
      refine j_istore_n C d_MO_inverse_31 rfl (by decide) (lv' := [(2, .int r_1), (0, .ref (E.2.2.1 h0)), (1, .int v1), (3, .int v3), (4, .int v4)]) rfl ?_
      refine j_lv [1, 2, 0, 3, 4] rfl ?_
      exact k_MO_inverse_32 C hr h0 v1 r_1 v3 v4 I g_h0 hX12 h
theorem k_MO_inverse_12 {Z : jZ} {E : jE} (C : jC Z E prog_5_method_5_code 5 "OutOrder$Modulus" 3 65) (hr : (jZh Z).sig.returnType = (some .int))  (h0 : Nat) (v1 : Int32) (v2 : Int32) (v3 : Int32) (v4 : Int32) (I : jM) (g_h0 : jOB E 3 h0) {K : Int32 → Prop} (h : MO_inverse_12 h0 v1 v2 v3 v4 I K) : jJ Z E 5 (jQi Z E (fun r I2 => I = I2 ∧ K r)) 12 [(0, .ref (E.2.2.1 h0)), (1, .int v1), (2, .int v2), (3, .int v3), (4, .int v4)] [] I := by
  unfold MO_inverse_12 at h
  exact h (fun s => jJ Z E 5 (jQi Z E (fun r I2 => I = I2 ∧ K r)) 12 [(0, .ref (E.2.2.1 h0)), (1, .int v1), (2, .int s.1), (3, .int s.2.1), (4, .int s.2.2)] [] I) (fun s hs => kb_MO_inverse_12 C hr h0 v1 s.1 s.2.1 s.2.2 I g_h0 (fun s2 h2 => h2) hs)
/-- OutOrder$Modulus.inverse(I)I -/
def MO_inverse (h0 : Nat) (v1 : Int32) (I : jM) (K : Int32 → Prop) : Prop :=
  (∀ v4_1 : Int32, v4_1 = ((I h0 0) - (2 : Int32)) → MO_inverse_12 h0 v1 (1 : Int32) v1 v4_1 I K)
set_option maxRecDepth 100000 in
set_option maxHeartbeats 4000000 in
theorem s_MO_inverse {l : Launch} {E : jE} (ok : jOK E)  {h0 : Nat} {v1 : Int32} (g_h0 : jOB E 3 h0) {I : jM} {K : Int32 → Prop} (h : MO_inverse h0 v1 I K) : jSi l E ⟨"OutOrder$Modulus", "inverse", "(I)I"⟩ prog_5_method_5_code 5 (some .int) 3 65 [.ref (E.2.2.1 h0), .int v1] I (fun r I2 => I = I2 ∧ K r) := by
  refine jS_ofF (own := "OutOrder$Modulus") (by decide +kernel) rfl ok (Nat.le_of_ble_eq_true rfl) (fun Z _ C hr => ?_)
  show jJ Z E 5 (jQi Z E (fun r I2 => I = I2 ∧ K r)) 0 [(0, .ref (E.2.2.1 h0)), (1, .int v1)] [] I
  unfold MO_inverse at h
  refine j_iconst C d_MO_inverse_0 ic_1 ?_
  refine j_istore_n C d_MO_inverse_1 rfl (by decide) (lv' := [(2, .int (1 : Int32)), (0, .ref (E.2.2.1 h0)), (1, .int v1)]) rfl ?_
  refine j_iload_n C d_MO_inverse_2 rfl 2 rfl ?_
  refine j_istore_n C d_MO_inverse_3 rfl (by decide) (lv' := [(3, .int v1), (2, .int (1 : Int32)), (0, .ref (E.2.2.1 h0)), (1, .int v1)]) rfl ?_
  refine j_aload_n C d_MO_inverse_4 rfl 2 rfl ?_
  refine fg_MO_9 C g_h0 d_MO_inverse_5 ?_
  refine j_iconst C d_MO_inverse_8 ic_2 ?_
  refine j_isub C d_MO_inverse_9 ?_
  refine j_topi (fun v4_1 ev4_1 => ?_)
  have h := h v4_1 ev4_1
  refine j_istore C d_MO_inverse_10 (by decide) (lv' := [(4, .int v4_1), (3, .int v1), (2, .int (1 : Int32)), (0, .ref (E.2.2.1 h0)), (1, .int v1)]) rfl ?_
  refine j_lv [3, 4, 2, 1, 0] rfl ?_
  exact k_MO_inverse_12 C hr h0 v1 (1 : Int32) v1 v4_1 I g_h0 h
theorem d_MO_isPrime_0 : decode prog_5_method_2_code 0 = .ok (.iconst 2, 1) := by decide +kernel
theorem d_MO_isPrime_1 : decode prog_5_method_2_code 1 = .ok (.istore_n 1, 1) := by decide +kernel
theorem d_MO_isPrime_2 : decode prog_5_method_2_code 2 = .ok (.iload_n 1, 1) := by decide +kernel
theorem d_MO_isPrime_3 : decode prog_5_method_2_code 3 = .ok (.iload_n 0, 1) := by decide +kernel
theorem d_MO_isPrime_4 : decode prog_5_method_2_code 4 = .ok (.iload_n 1, 1) := by decide +kernel
theorem d_MO_isPrime_5 : decode prog_5_method_2_code 5 = .ok (.idiv, 1) := by decide +kernel
theorem d_MO_isPrime_6 : decode prog_5_method_2_code 6 = .ok (.if_icmp .gt 17, 3) := by decide +kernel
theorem d_MO_isPrime_9 : decode prog_5_method_2_code 9 = .ok (.iload_n 0, 1) := by decide +kernel
theorem d_MO_isPrime_10 : decode prog_5_method_2_code 10 = .ok (.iload_n 1, 1) := by decide +kernel
theorem d_MO_isPrime_11 : decode prog_5_method_2_code 11 = .ok (.irem, 1) := by decide +kernel
theorem d_MO_isPrime_12 : decode prog_5_method_2_code 12 = .ok (.ifCond .ne 5, 3) := by decide +kernel
theorem d_MO_isPrime_15 : decode prog_5_method_2_code 15 = .ok (.iconst 0, 1) := by decide +kernel
theorem d_MO_isPrime_16 : decode prog_5_method_2_code 16 = .ok (.ireturn, 1) := by decide +kernel
theorem d_MO_isPrime_17 : decode prog_5_method_2_code 17 = .ok (.iinc 1 1, 3) := by decide +kernel
theorem d_MO_isPrime_20 : decode prog_5_method_2_code 20 = .ok (.goto (-18), 3) := by decide +kernel
theorem d_MO_isPrime_23 : decode prog_5_method_2_code 23 = .ok (.iload_n 0, 1) := by decide +kernel
theorem d_MO_isPrime_24 : decode prog_5_method_2_code 24 = .ok (.iconst 1, 1) := by decide +kernel
theorem d_MO_isPrime_25 : decode prog_5_method_2_code 25 = .ok (.if_icmp .le 7, 3) := by decide +kernel
theorem d_MO_isPrime_28 : decode prog_5_method_2_code 28 = .ok (.iconst 1, 1) := by decide +kernel
theorem d_MO_isPrime_29 : decode prog_5_method_2_code 29 = .ok (.goto 4, 3) := by decide +kernel
theorem d_MO_isPrime_32 : decode prog_5_method_2_code 32 = .ok (.iconst 0, 1) := by decide +kernel
theorem d_MO_isPrime_33 : decode prog_5_method_2_code 33 = .ok (.ireturn, 1) := by decide +kernel
def MO_isPrime_2b (v0 : Int32) (v1 : Int32) (I : jM) (K : Int32 → Prop) (X2 : Int32 → Prop) : Prop :=
  (¬ v1 = 0 ∧ (((v0 / v1) < v1 → ((v0 ≤ (1 : Int32) → K (0 : Int32)) ∧ (¬ v0 ≤ (1 : Int32) → K (1 : Int32)))) ∧ (¬ (v0 / v1) < v1 → (¬ v1 = 0 ∧ ((¬ (v0 - v0 / v1 * v1) = 0 → X2 (v1 + 1)) ∧ ((v0 - v0 / v1 * v1) = 0 → K (0 : Int32)))))))
def MO_isPrime_2 (v0 : Int32) (v1 : Int32) (I : jM) (K : Int32 → Prop) : Prop :=
  lp (fun (X2 : Int32 → Prop) (s : Int32) => MO_isPrime_2b v0 s I K X2) v1
set_option maxRecDepth 100000 in
set_option maxHeartbeats 4000000 in
theorem kb_MO_isPrime_2 {Z : jZ} {E : jE} (C : jC Z E prog_5_method_2_code 2 "OutOrder$Modulus" 0 0) (hr : (jZh Z).sig.returnType = (some .boolean))  (v0 : Int32) (v1 : Int32) (I : jM) {K : Int32 → Prop} {X2 : Int32 → Prop} (hX2 : ∀ s : Int32, X2 s → jJ Z E 2 (jQi Z E (fun r I2 => I = I2 ∧ K r)) 2 [(0, .int v0), (1, .int s)] [] I) (h : MO_isPrime_2b v0 v1 I K X2) : jJ Z E 2 (jQi Z E (fun r I2 => I = I2 ∧ K r)) 2 [(0, .int v0), (1, .int v1)] [] I := by
  unfold MO_isPrime_2b at h
  refine j_iload_n C d_MO_isPrime_2 rfl 1 rfl ?_
  refine j_iload_n C d_MO_isPrime_3 rfl 0 rfl ?_
  refine j_iload_n C d_MO_isPrime_4 rfl 1 rfl ?_
  obtain ⟨hn, h⟩ := h
  refine j_idiv C d_MO_isPrime_5 hn ?_
  refine j_icmp_gt C d_MO_isPrime_6 (tgt := 23) (by decide) (fun c6 => ?_) (fun c6 => ?_)
  · have h := h.1 c6
    refine j_iload_n C d_MO_isPrime_23 rfl 0 rfl ?_
    refine j_iconst C d_MO_isPrime_24 ic_1 ?_
    refine j_icmp_le C d_MO_isPrime_25 (tgt := 32) (by decide) (fun c25 => ?_) (fun c25 => ?_)
    · have h := h.1 c25
      refine j_iconst C d_MO_isPrime_32 ic_0 ?_
      exact j_zret C hr (by decide) d_MO_isPrime_33 ⟨rfl, h⟩
    · have h := h.2 c25
      refine j_iconst C d_MO_isPrime_28 ic_1 ?_
      refine j_goto C d_MO_isPrime_29 (tgt := 33) (by decide) ?_
      exact j_zret C hr (by decide) d_MO_isPrime_33 ⟨rfl, h⟩
  · have h := h.2 c6
    refine j_iload_n C d_MO_isPrime_9 rfl 0 rfl ?_
    refine j_iload_n C d_MO_isPrime_10 rfl 1 rfl ?_
    obtain ⟨hn, h⟩ := h
    refine j_irem C d_MO_isPrime_11 hn ?_
    refine j_if_ne C d_MO_isPrime_12 (tgt := 17) (by decide) (fun c12 => ?_) (fun c12 => ?_)
    · have h := h.1 c12
      refine j_iinc C d_MO_isPrime_17 1 rfl (v := (v1 + 1)) rfl (by decide) (lv' := [(1, .int (v1 + 1)), (0, .int v0)]) rfl ?_
      refine j_goto C d_MO_isPrime_20 (tgt := 2) (by decide) ?_
      refine j_lv [1, 0] rfl ?_
      exact hX2 (v1 + 1) h
    · have h := h.2 c12
      refine j_iconst C d_MO_isPrime_15 ic_0 ?_
      exact j_zret C hr (by decide) d_MO_isPrime_16 ⟨rfl, h⟩
theorem k_MO_isPrime_2 {Z : jZ} {E : jE} (C : jC Z E prog_5_method_2_code 2 "OutOrder$Modulus" 0 0) (hr : (jZh Z).sig.returnType = (some .boolean))  (v0 : Int32) (v1 : Int32) (I : jM) {K : Int32 → Prop} (h : MO_isPrime_2 v0 v1 I K) : jJ Z E 2 (jQi Z E (fun r I2 => I = I2 ∧ K r)) 2 [(0, .int v0), (1, .int v1)] [] I := by
  unfold MO_isPrime_2 at h
  exact h (fun s => jJ Z E 2 (jQi Z E (fun r I2 => I = I2 ∧ K r)) 2 [(0, .int v0), (1, .int s)] [] I) (fun s hs => kb_MO_isPrime_2 C hr v0 s I  (fun s2 h2 => h2) hs)
/-- OutOrder$Modulus.isPrime(I)Z -/
def MO_isPrime (v0 : Int32) (I : jM) (K : Int32 → Prop) : Prop :=
  MO_isPrime_2 v0 (2 : Int32) I K
set_option maxRecDepth 100000 in
set_option maxHeartbeats 4000000 in
theorem s_MO_isPrime {l : Launch} {E : jE} (ok : jOK E)  {v0 : Int32} {I : jM} {K : Int32 → Prop} (h : MO_isPrime v0 I K) : jSi l E ⟨"OutOrder$Modulus", "isPrime", "(I)Z"⟩ prog_5_method_2_code 2 (some .boolean) 0 0 [.int v0] I (fun r I2 => I = I2 ∧ K r) := by
  refine jS_ofF (own := "OutOrder$Modulus") (by decide +kernel) rfl ok (Nat.le_of_ble_eq_true rfl) (fun Z _ C hr => ?_)
  show jJ Z E 2 (jQi Z E (fun r I2 => I = I2 ∧ K r)) 0 [(0, .int v0)] [] I
  unfold MO_isPrime at h
  refine j_iconst C d_MO_isPrime_0 ic_2 ?_
  refine j_istore_n C d_MO_isPrime_1 rfl (by decide) (lv' := [(1, .int (2 : Int32)), (0, .int v0)]) rfl ?_
  refine j_lv [1, 0] rfl ?_
  exact k_MO_isPrime_2 C hr v0 (2 : Int32) I  h
end
section
theorem d_NE_copyWithout_0 : decode prog_6_method_6_code 0 = .ok (.aload_n 1, 1) := by decide +kernel
theorem d_NE_copyWithout_1 : decode prog_6_method_6_code 1 = .ok (.iload_n 0, 1) := by decide +kernel
theorem d_NE_copyWithout_2 : decode prog_6_method_6_code 2 = .ok (.iaload, 1) := by decide +kernel
theorem d_NE_copyWithout_3 : decode prog_6_method_6_code 3 = .ok (.istore 4, 2) := by decide +kernel
theorem d_NE_copyWithout_5 : decode prog_6_method_6_code 5 = .ok (.iconst 0, 1) := by decide +kernel
theorem d_NE_copyWithout_6 : decode prog_6_method_6_code 6 = .ok (.istore 5, 2) := by decide +kernel
theorem d_NE_copyWithout_8 : decode prog_6_method_6_code 8 = .ok (.iload 5, 2) := by decide +kernel
theorem d_NE_copyWithout_10 : decode prog_6_method_6_code 10 = .ok (.iload_n 3, 1) := by decide +kernel
theorem d_NE_copyWithout_11 : decode prog_6_method_6_code 11 = .ok (.if_icmp .ge 61, 3) := by decide +kernel
theorem d_NE_copyWithout_14 : decode prog_6_method_6_code 14 = .ok (.iload 4, 2) := by decide +kernel
theorem d_NE_copyWithout_16 : decode prog_6_method_6_code 16 = .ok (.iload 5, 2) := by decide +kernel
theorem d_NE_copyWithout_18 : decode prog_6_method_6_code 18 = .ok (.ishr, 1) := by decide +kernel
theorem d_NE_copyWithout_19 : decode prog_6_method_6_code 19 = .ok (.iconst 1, 1) := by decide +kernel
theorem d_NE_copyWithout_20 : decode prog_6_method_6_code 20 = .ok (.iand, 1) := by decide +kernel
theorem d_NE_copyWithout_21 : decode prog_6_method_6_code 21 = .ok (.iconst 1, 1) := by decide +kernel
theorem d_NE_copyWithout_22 : decode prog_6_method_6_code 22 = .ok (.if_icmp .ne 7, 3) := by decide +kernel
theorem d_NE_copyWithout_25 : decode prog_6_method_6_code 25 = .ok (.iconst 1, 1) := by decide +kernel
theorem d_NE_copyWithout_26 : decode prog_6_method_6_code 26 = .ok (.goto 4, 3) := by decide +kernel
theorem d_NE_copyWithout_29 : decode prog_6_method_6_code 29 = .ok (.iconst 0, 1) := by decide +kernel
theorem d_NE_copyWithout_30 : decode prog_6_method_6_code 30 = .ok (.istore 6, 2) := by decide +kernel
theorem d_NE_copyWithout_32 : decode prog_6_method_6_code 32 = .ok (.aload_n 2, 1) := by decide +kernel
theorem d_NE_copyWithout_33 : decode prog_6_method_6_code 33 = .ok (.iload 5, 2) := by decide +kernel
theorem d_NE_copyWithout_35 : decode prog_6_method_6_code 35 = .ok (.iload 6, 2) := by decide +kernel
theorem d_NE_copyWithout_37 : decode prog_6_method_6_code 37 = .ok (.ifCond .eq 24, 3) := by decide +kernel
theorem d_NE_copyWithout_40 : decode prog_6_method_6_code 40 = .ok (.aload_n 1, 1) := by decide +kernel
theorem d_NE_copyWithout_41 : decode prog_6_method_6_code 41 = .ok (.iload 5, 2) := by decide +kernel
theorem d_NE_copyWithout_43 : decode prog_6_method_6_code 43 = .ok (.iaload, 1) := by decide +kernel
theorem d_NE_copyWithout_44 : decode prog_6_method_6_code 44 = .ok (.iload 4, 2) := by decide +kernel
theorem d_NE_copyWithout_46 : decode prog_6_method_6_code 46 = .ok (.ior, 1) := by decide +kernel
theorem d_NE_copyWithout_47 : decode prog_6_method_6_code 47 = .ok (.iconst 1, 1) := by decide +kernel
theorem d_NE_copyWithout_48 : decode prog_6_method_6_code 48 = .ok (.iload 5, 2) := by decide +kernel
theorem d_NE_copyWithout_50 : decode prog_6_method_6_code 50 = .ok (.ishl, 1) := by decide +kernel
theorem d_NE_copyWithout_51 : decode prog_6_method_6_code 51 = .ok (.iconst 1, 1) := by decide +kernel
theorem d_NE_copyWithout_52 : decode prog_6_method_6_code 52 = .ok (.iload_n 0, 1) := by decide +kernel
theorem d_NE_copyWithout_53 : decode prog_6_method_6_code 53 = .ok (.ishl, 1) := by decide +kernel
theorem d_NE_copyWithout_54 : decode prog_6_method_6_code 54 = .ok (.ior, 1) := by decide +kernel
theorem d_NE_copyWithout_55 : decode prog_6_method_6_code 55 = .ok (.iconst (-1), 1) := by decide +kernel
theorem d_NE_copyWithout_56 : decode prog_6_method_6_code 56 = .ok (.ixor, 1) := by decide +kernel
theorem d_NE_copyWithout_57 : decode prog_6_method_6_code 57 = .ok (.iand, 1) := by decide +kernel
theorem d_NE_copyWithout_58 : decode prog_6_method_6_code 58 = .ok (.goto 7, 3) := by decide +kernel
theorem d_NE_copyWithout_61 : decode prog_6_method_6_code 61 = .ok (.aload_n 1, 1) := by decide +kernel
theorem d_NE_copyWithout_62 : decode prog_6_method_6_code 62 = .ok (.iload 5, 2) := by decide +kernel
theorem d_NE_copyWithout_64 : decode prog_6_method_6_code 64 = .ok (.iaload, 1) := by decide +kernel
theorem d_NE_copyWithout_65 : decode prog_6_method_6_code 65 = .ok (.iastore, 1) := by decide +kernel
theorem d_NE_copyWithout_66 : decode prog_6_method_6_code 66 = .ok (.iinc 5 1, 3) := by decide +kernel
theorem d_NE_copyWithout_69 : decode prog_6_method_6_code 69 = .ok (.goto (-61), 3) := by decide +kernel
theorem d_NE_copyWithout_72 : decode prog_6_method_6_code 72 = .ok (.return_, 1) := by decide +kernel
def NE_copyWithout_30 (v0 : Int32) (h1 : Nat) (h2 : Nat) (v3 : Int32) (v4 : Int32) (v5 : Int32) (s0 : Int32) (I : jM) (K : jM → Prop) (X8 : Int32 × jM → Prop) : Prop :=
  ((s0 = 0 → (vp_in v5 (jl h1) ∧ (vp_in v5 (jl h2) ∧ (∀ I_1 : jM, I_1 = jwr I h2 v5.toNatClampNeg (I h1 v5.toNatClampNeg) → X8 ((v5 + 1), I_1))))) ∧ (¬ s0 = 0 → (vp_in v5 (jl h1) ∧ (vp_in v5 (jl h2) ∧ (∀ I_2 : jM, I_2 = jwr I h2 v5.toNatClampNeg (((I h1 v5.toNatClampNeg) ||| v4) &&& ((((1 : Int32) <<< (v5 &&& 31)) ||| ((1 : Int32) <<< (v0 &&& 31))) ^^^ (-1 : Int32))) → X8 ((v5 + 1), I_2))))))
set_option maxRecDepth 100000 in
set_option maxHeartbeats 4000000 in
theorem k_NE_copyWithout_30 {Z : jZ} {E : jE} (C : jC Z E prog_6_method_6_code 7 "OutOrder$Net" 0 0) (hr : (jZh Z).sig.returnType = none)  (v0 : Int32) (h1 : Nat) (h2 : Nat) (v3 : Int32) (v4 : Int32) (v5 : Int32) (s0 : Int32) (I : jM) (g_h1 : jAI E (jl h1) h1) (g_h2 : jAI E (jl h2) h2) {K : jM → Prop} {X8 : Int32 × jM → Prop} (hX8 : ∀ s : Int32 × jM, X8 s → jJ Z E 7 (jQv Z E K) 8 [(0, .int v0), (1, .ref (E.2.2.1 h1)), (2, .ref (E.2.2.1 h2)), (3, .int v3), (4, .int v4), (5, .int s.1)] [] s.2) (h : NE_copyWithout_30 v0 h1 h2 v3 v4 v5 s0 I K X8) : jJ Z E 7 (jQv Z E K) 30 [(0, .int v0), (1, .ref (E.2.2.1 h1)), (2, .ref (E.2.2.1 h2)), (3, .int v3), (4, .int v4), (5, .int v5)] [.int s0] I := by
  unfold NE_copyWithout_30 at h
  refine j_istore C d_NE_copyWithout_30 (by decide) (lv' := [(6, .int s0), (0, .int v0), (1, .ref (E.2.2.1 h1)), (2, .ref (E.2.2.1 h2)), (3, .int v3), (4, .int v4), (5, .int v5)]) rfl ?_
  refine j_aload_n C d_NE_copyWithout_32 rfl 3 rfl ?_
  refine j_iload C d_NE_copyWithout_33 6 rfl ?_
  refine j_iload C d_NE_copyWithout_35 0 rfl ?_
  refine j_if_eq C d_NE_copyWithout_37 (tgt := 61) (by decide) (fun c37 => ?_) (fun c37 => ?_)
  · have h := h.1 c37
    refine j_aload_n C d_NE_copyWithout_61 rfl 2 rfl ?_
    refine j_iload C d_NE_copyWithout_62 6 rfl ?_
    obtain ⟨hi, h⟩ := h
    refine j_iaload C g_h1 hi d_NE_copyWithout_64 ?_
    obtain ⟨hi, h⟩ := h
    refine j_iastore C g_h2 hi d_NE_copyWithout_65 ?_
    have h := h _ rfl
    generalize eI_1 : (jwr I h2 v5.toNatClampNeg (I h1 v5.toNatClampNeg) : jM) = I_1 at h ⊢
    refine j_iinc C d_NE_copyWithout_66 6 rfl (v := (v5 + 1)) rfl (by decide) (lv' := [(5, .int (v5 + 1)), (6, .int s0), (0, .int v0), (1, .ref (E.2.2.1 h1)), (2, .ref (E.2.2.1 h2)), (3, .int v3), (4, .int v4)]) rfl ?_
    refine j_goto C d_NE_copyWithout_69 (tgt := 8) (by decide) ?_
    refine j_lv [2, 3, 4, 5, 6, 0] rfl ?_
    exact hX8 ((v5 + 1), I_1) h
  · have h := h.2 c37
    refine j_aload_n C d_NE_copyWithout_40 rfl 2 rfl ?_
    refine j_iload C d_NE_copyWithout_41 6 rfl ?_
    obtain ⟨hi, h⟩ := h
    refine j_iaload C g_h1 hi d_NE_copyWithout_43 ?_
    refine j_iload C d_NE_copyWithout_44 5 rfl ?_
    refine j_ior C d_NE_copyWithout_46 ?_
    refine j_iconst C d_NE_copyWithout_47 ic_1 ?_
    refine j_iload C d_NE_copyWithout_48 6 rfl ?_
    refine j_ishl C d_NE_copyWithout_50 ?_
    refine j_iconst C d_NE_copyWithout_51 ic_1 ?_
    refine j_iload_n C d_NE_copyWithout_52 rfl 1 rfl ?_
    refine j_ishl C d_NE_copyWithout_53 ?_
    refine j_ior C d_NE_copyWithout_54 ?_
    refine j_iconst C d_NE_copyWithout_55 ic_m1 ?_
    refine j_ixor C d_NE_copyWithout_56 ?_
    refine j_iand C d_NE_copyWithout_57 ?_
    refine j_goto C d_NE_copyWithout_58 (tgt := 65) (by decide) ?_
    obtain ⟨hi, h⟩ := h
    refine j_iastore C g_h2 hi d_NE_copyWithout_65 ?_
    have h := h _ rfl
    generalize eI_2 : (jwr I h2 v5.toNatClampNeg (((I h1 v5.toNatClampNeg) ||| v4) &&& ((((1 : Int32) <<< (v5 &&& 31)) ||| ((1 : Int32) <<< (v0 &&& 31))) ^^^ (-1 : Int32))) : jM) = I_2 at h ⊢
    refine j_iinc C d_NE_copyWithout_66 6 rfl (v := (v5 + 1)) rfl (by decide) (lv' := [(5, .int (v5 + 1)), (6, .int s0), (0, .int v0), (1, .ref (E.2.2.1 h1)), (2, .ref (E.2.2.1 h2)), (3, .int v3), (4, .int v4)]) rfl ?_
    refine j_goto C d_NE_copyWithout_69 (tgt := 8) (by decide) ?_
    refine j_lv [2, 3, 4, 5, 6, 0] rfl ?_
    exact hX8 ((v5 + 1), I_2) h
def NE_copyWithout_8b (v0 : Int32) (h1 : Nat) (h2 : Nat) (v3 : Int32) (v4 : Int32) (v5 : Int32) (I : jM) (K : jM → Prop) (X8 : Int32 × jM → Prop) : Prop :=
  ((v3 ≤ v5 → K I) ∧ (¬ v3 ≤ v5 → ((¬ ((v4 >>> (v5 &&& 31)) &&& (1 : Int32)) = (1 : Int32) → NE_copyWithout_30 v0 h1 h2 v3 v4 v5 (0 : Int32) I K X8) ∧ (((v4 >>> (v5 &&& 31)) &&& (1 : Int32)) = (1 : Int32) → NE_copyWithout_30 v0 h1 h2 v3 v4 v5 (1 : Int32) I K X8))))
def NE_copyWithout_8 (v0 : Int32) (h1 : Nat) (h2 : Nat) (v3 : Int32) (v4 : Int32) (v5 : Int32) (I : jM) (K : jM → Prop) : Prop :=
  lp (fun (X8 : Int32 × jM → Prop) (s : Int32 × jM) => NE_copyWithout_8b v0 h1 h2 v3 v4 s.1 s.2 K X8) (v5, I)
set_option maxRecDepth 100000 in
set_option maxHeartbeats 4000000 in
theorem kb_NE_copyWithout_8 {Z : jZ} {E : jE} (C : jC Z E prog_6_method_6_code 7 "OutOrder$Net" 0 0) (hr : (jZh Z).sig.returnType = none)  (v0 : Int32) (h1 : Nat) (h2 : Nat) (v3 : Int32) (v4 : Int32) (v5 : Int32) (I : jM) (g_h1 : jAI E (jl h1) h1) (g_h2 : jAI E (jl h2) h2) {K : jM → Prop} {X8 : Int32 × jM → Prop} (hX8 : ∀ s : Int32 × jM, X8 s → jJ Z E 7 (jQv Z E K) 8 [(0, .int v0), (1, .ref (E.2.2.1 h1)), (2, .ref (E.2.2.1 h2)), (3, .int v3), (4, .int v4), (5, .int s.1)] [] s.2) (h : NE_copyWithout_8b v0 h1 h2 v3 v4 v5 I K X8) : jJ Z E 7 (jQv Z E K) 8 [(0, .int v0), (1, .ref (E.2.2.1 h1)), (2, .ref (E.2.2.1 h2)), (3, .int v3), (4, .int v4), (5, .int v5)] [] I := by
  unfold NE_copyWithout_8b at h
  refine j_iload C d_NE_copyWithout_8 5 rfl ?_
  refine j_iload_n C d_NE_copyWithout_10 rfl 3 rfl ?_
  refine j_icmp_ge C d_NE_copyWithout_11 (tgt := 72) (by decide) (fun c11 => ?_) (fun c11 => ?_)
  · have h := h.1 c11
    exact j_vret C hr d_NE_copyWithout_72 h
  · have h := h.2 c11
    refine j_iload C d_NE_copyWithout_14 4 rfl ?_
    refine j_iload C d_NE_copyWithout_16 5 rfl ?_
    refine j_ishr C d_NE_copyWithout_18 ?_
    refine j_iconst C d_NE_copyWithout_19 ic_1 ?_
    refine j_iand C d_NE_copyWithout_20 ?_
    refine j_iconst C d_NE_copyWithout_21 ic_1 ?_
    refine j_icmp_ne C d_NE_copyWithout_22 (tgt := 29) (by decide) (fun c22 => ?_) (fun c22 => ?_)
    · have h := h.1 c22
      refine j_iconst C d_NE_copyWithout_29 ic_0 ?_
      refine j_lv [0, 1, 2, 3, 4, 5] rfl ?_
      exact k_NE_copyWithout_30 C hr v0 h1 h2 v3 v4 v5 (0 : Int32) I g_h1 g_h2 hX8 h
    · have h := h.2 c22
      refine j_iconst C d_NE_copyWithout_25 ic_1 ?_
      refine j_goto C d_NE_copyWithout_26 (tgt := 30) (by decide) ?_
      refine j_lv [0, 1, 2, 3, 4, 5] rfl ?_
      exact k_NE_copyWithout_30 C hr v0 h1 h2 v3 v4 v5 (1 : Int32) I g_h1 g_h2 hX8 h
theorem k_NE_copyWithout_8 {Z : jZ} {E : jE} (C : jC Z E prog_6_method_6_code 7 "OutOrder$Net" 0 0) (hr : (jZh Z).sig.returnType = none)  (v0 : Int32) (h1 : Nat) (h2 : Nat) (v3 : Int32) (v4 : Int32) (v5 : Int32) (I : jM) (g_h1 : jAI E (jl h1) h1) (g_h2 : jAI E (jl h2) h2) {K : jM → Prop} (h : NE_copyWithout_8 v0 h1 h2 v3 v4 v5 I K) : jJ Z E 7 (jQv Z E K) 8 [(0, .int v0), (1, .ref (E.2.2.1 h1)), (2, .ref (E.2.2.1 h2)), (3, .int v3), (4, .int v4), (5, .int v5)] [] I := by
  unfold NE_copyWithout_8 at h
  exact h (fun s => jJ Z E 7 (jQv Z E K) 8 [(0, .int v0), (1, .ref (E.2.2.1 h1)), (2, .ref (E.2.2.1 h2)), (3, .int v3), (4, .int v4), (5, .int s.1)] [] s.2) (fun s hs => kb_NE_copyWithout_8 C hr v0 h1 h2 v3 v4 s.1 s.2 g_h1 g_h2 (fun s2 h2 => h2) hs)
/-- OutOrder$Net.copyWithout(I[I[II)V -/
def NE_copyWithout (v0 : Int32) (h1 : Nat) (h2 : Nat) (v3 : Int32) (I : jM) (K : jM → Prop) : Prop :=
  (vp_in v0 (jl h1) ∧ (∀ v4_1 : Int32, v4_1 = (I h1 v0.toNatClampNeg) → NE_copyWithout_8 v0 h1 h2 v3 v4_1 (0 : Int32) I K))
set_option maxRecDepth 100000 in
set_option maxHeartbeats 4000000 in
theorem s_NE_copyWithout {l : Launch} {E : jE} (ok : jOK E)  {v0 : Int32} {h1 : Nat} {h2 : Nat} {v3 : Int32} (g_h1 : jAI E (jl h1) h1) (g_h2 : jAI E (jl h2) h2) {I : jM} {K : jM → Prop} (h : NE_copyWithout v0 h1 h2 v3 I K) : jSv l E ⟨"OutOrder$Net", "copyWithout", "(I[I[II)V"⟩ prog_6_method_6_code 7 none 0 0 [.int v0, .ref (E.2.2.1 h1), .ref (E.2.2.1 h2), .int v3] I K := by
  refine jS_ofF (own := "OutOrder$Net") (by decide +kernel) rfl ok (Nat.le_of_ble_eq_true rfl) (fun Z _ C hr => ?_)
  show jJ Z E 7 (jQv Z E K) 0 [(0, .int v0), (1, .ref (E.2.2.1 h1)), (2, .ref (E.2.2.1 h2)), (3, .int v3)] [] I
  unfold NE_copyWithout at h
  refine j_aload_n C d_NE_copyWithout_0 rfl 1 rfl ?_
  refine j_iload_n C d_NE_copyWithout_1 rfl 0 rfl ?_
  obtain ⟨hi, h⟩ := h
  refine j_iaload C g_h1 hi d_NE_copyWithout_2 ?_
  refine j_topi (fun v4_1 ev4_1 => ?_)
  have h := h v4_1 ev4_1
  refine j_istore C d_NE_copyWithout_3 (by decide) (lv' := [(4, .int v4_1), (0, .int v0), (1, .ref (E.2.2.1 h1)), (2, .ref (E.2.2.1 h2)), (3, .int v3)]) rfl ?_
  refine j_iconst C d_NE_copyWithout_5 ic_0 ?_
  refine j_istore C d_NE_copyWithout_6 (by decide) (lv' := [(5, .int (0 : Int32)), (4, .int v4_1), (0, .int v0), (1, .ref (E.2.2.1 h1)), (2, .ref (E.2.2.1 h2)), (3, .int v3)]) rfl ?_
  refine j_lv [2, 3, 4, 5, 1, 0] rfl ?_
  exact k_NE_copyWithout_8 C hr v0 h1 h2 v3 v4_1 (0 : Int32) I g_h1 g_h2 h
theorem d_NE_has_0 : decode prog_6_method_3_code 0 = .ok (.aload_n 0, 1) := by decide +kernel
theorem d_NE_has_1 : decode prog_6_method_3_code 1 = .ok (.getfield 22, 3) := by decide +kernel
theorem d_NE_has_4 : decode prog_6_method_3_code 4 = .ok (.iload_n 1, 1) := by decide +kernel
theorem d_NE_has_5 : decode prog_6_method_3_code 5 = .ok (.ishr, 1) := by decide +kernel
theorem d_NE_has_6 : decode prog_6_method_3_code 6 = .ok (.iconst 1, 1) := by decide +kernel
theorem d_NE_has_7 : decode prog_6_method_3_code 7 = .ok (.iand, 1) := by decide +kernel
theorem d_NE_has_8 : decode prog_6_method_3_code 8 = .ok (.iconst 1, 1) := by decide +kernel
theorem d_NE_has_9 : decode prog_6_method_3_code 9 = .ok (.if_icmp .ne 7, 3) := by decide +kernel
theorem d_NE_has_12 : decode prog_6_method_3_code 12 = .ok (.iconst 1, 1) := by decide +kernel
theorem d_NE_has_13 : decode prog_6_method_3_code 13 = .ok (.goto 4, 3) := by decide +kernel
theorem d_NE_has_16 : decode prog_6_method_3_code 16 = .ok (.iconst 0, 1) := by decide +kernel
theorem d_NE_has_17 : decode prog_6_method_3_code 17 = .ok (.ireturn, 1) := by decide +kernel
/-- OutOrder$Net.has(I)Z -/
def NE_has (h0 : Nat) (v1 : Int32) (I : jM) (K : Int32 → Prop) : Prop :=
  ((¬ (((I h0 1) >>> (v1 &&& 31)) &&& (1 : Int32)) = (1 : Int32) → K (0 : Int32)) ∧ ((((I h0 1) >>> (v1 &&& 31)) &&& (1 : Int32)) = (1 : Int32) → K (1 : Int32)))
set_option maxRecDepth 100000 in
set_option maxHeartbeats 4000000 in
theorem s_NE_has {l : Launch} {E : jE} (ok : jOK E)  {h0 : Nat} {v1 : Int32} (g_h0 : jOB E 4 h0) {I : jM} {K : Int32 → Prop} (h : NE_has h0 v1 I K) : jSi l E ⟨"OutOrder$Net", "has", "(I)Z"⟩ prog_6_method_3_code 2 (some .boolean) 0 0 [.ref (E.2.2.1 h0), .int v1] I (fun r I2 => I = I2 ∧ K r) := by
  refine jS_ofF (own := "OutOrder$Net") (by decide +kernel) rfl ok (Nat.le_of_ble_eq_true rfl) (fun Z _ C hr => ?_)
  show jJ Z E 2 (jQi Z E (fun r I2 => I = I2 ∧ K r)) 0 [(0, .ref (E.2.2.1 h0)), (1, .int v1)] [] I
  unfold NE_has at h
  refine j_aload_n C d_NE_has_0 rfl 0 rfl ?_
  refine fg_NE_22 C g_h0 d_NE_has_1 ?_
  refine j_iload_n C d_NE_has_4 rfl 1 rfl ?_
  refine j_ishr C d_NE_has_5 ?_
  refine j_iconst C d_NE_has_6 ic_1 ?_
  refine j_iand C d_NE_has_7 ?_
  refine j_iconst C d_NE_has_8 ic_1 ?_
  refine j_icmp_ne C d_NE_has_9 (tgt := 16) (by decide) (fun c9 => ?_) (fun c9 => ?_)
  · have h := h.1 c9
    refine j_iconst C d_NE_has_16 ic_0 ?_
    exact j_zret C hr (by decide) d_NE_has_17 ⟨rfl, h⟩
  · have h := h.2 c9
    refine j_iconst C d_NE_has_12 ic_1 ?_
    refine j_goto C d_NE_has_13 (tgt := 17) (by decide) ?_
    exact j_zret C hr (by decide) d_NE_has_17 ⟨rfl, h⟩
theorem d_NE_missing_0 : decode prog_6_method_4_code 0 = .ok (.aload_n 0, 1) := by decide +kernel
theorem d_NE_missing_1 : decode prog_6_method_4_code 1 = .ok (.getfield 9, 3) := by decide +kernel
theorem d_NE_missing_4 : decode prog_6_method_4_code 4 = .ok (.iload_n 1, 1) := by decide +kernel
theorem d_NE_missing_5 : decode prog_6_method_4_code 5 = .ok (.iaload, 1) := by decide +kernel
theorem d_NE_missing_6 : decode prog_6_method_4_code 6 = .ok (.istore_n 2, 1) := by decide +kernel
theorem d_NE_missing_7 : decode prog_6_method_4_code 7 = .ok (.iconst 0, 1) := by decide +kernel
theorem d_NE_missing_8 : decode prog_6_method_4_code 8 = .ok (.istore_n 3, 1) := by decide +kernel
theorem d_NE_missing_9 : decode prog_6_method_4_code 9 = .ok (.iconst 0, 1) := by decide +kernel
theorem d_NE_missing_10 : decode prog_6_method_4_code 10 = .ok (.istore 4, 2) := by decide +kernel
theorem d_NE_missing_12 : decode prog_6_method_4_code 12 = .ok (.iload 4, 2) := by decide +kernel
theorem d_NE_missing_14 : decode prog_6_method_4_code 14 = .ok (.aload_n 0, 1) := by decide +kernel
theorem d_NE_missing_15 : decode prog_6_method_4_code 15 = .ok (.getfield 15, 3) := by decide +kernel
theorem d_NE_missing_18 : decode prog_6_method_4_code 18 = .ok (.if_icmp .ge 43, 3) := by decide +kernel
theorem d_NE_missing_21 : decode prog_6_method_4_code 21 = .ok (.iload_n 2, 1) := by decide +kernel
theorem d_NE_missing_22 : decode prog_6_method_4_code 22 = .ok (.iload 4, 2) := by decide +kernel
theorem d_NE_missing_24 : decode prog_6_method_4_code 24 = .ok (.ishr, 1) := by decide +kernel
theorem d_NE_missing_25 : decode prog_6_method_4_code 25 = .ok (.iconst 1, 1) := by decide +kernel
theorem d_NE_missing_26 : decode prog_6_method_4_code 26 = .ok (.iand, 1) := by decide +kernel
theorem d_NE_missing_27 : decode prog_6_method_4_code 27 = .ok (.iconst 1, 1) := by decide +kernel
theorem d_NE_missing_28 : decode prog_6_method_4_code 28 = .ok (.if_icmp .ne 27, 3) := by decide +kernel
theorem d_NE_missing_31 : decode prog_6_method_4_code 31 = .ok (.iload_n 3, 1) := by decide +kernel
theorem d_NE_missing_32 : decode prog_6_method_4_code 32 = .ok (.iload_n 2, 1) := by decide +kernel
theorem d_NE_missing_33 : decode prog_6_method_4_code 33 = .ok (.aload_n 0, 1) := by decide +kernel
theorem d_NE_missing_34 : decode prog_6_method_4_code 34 = .ok (.getfield 9, 3) := by decide +kernel
theorem d_NE_missing_37 : decode prog_6_method_4_code 37 = .ok (.iload 4, 2) := by decide +kernel
theorem d_NE_missing_39 : decode prog_6_method_4_code 39 = .ok (.iaload, 1) := by decide +kernel
theorem d_NE_missing_40 : decode prog_6_method_4_code 40 = .ok (.iconst (-1), 1) := by decide +kernel
theorem d_NE_missing_41 : decode prog_6_method_4_code 41 = .ok (.ixor, 1) := by decide +kernel
theorem d_NE_missing_42 : decode prog_6_method_4_code 42 = .ok (.iand, 1) := by decide +kernel
theorem d_NE_missing_43 : decode prog_6_method_4_code 43 = .ok (.iconst 1, 1) := by decide +kernel
theorem d_NE_missing_44 : decode prog_6_method_4_code 44 = .ok (.iload 4, 2) := by decide +kernel
theorem d_NE_missing_46 : decode prog_6_method_4_code 46 = .ok (.ishl, 1) := by decide +kernel
theorem d_NE_missing_47 : decode prog_6_method_4_code 47 = .ok (.iconst (-1), 1) := by decide +kernel
theorem d_NE_missing_48 : decode prog_6_method_4_code 48 = .ok (.ixor, 1) := by decide +kernel
theorem d_NE_missing_49 : decode prog_6_method_4_code 49 = .ok (.iand, 1) := by decide +kernel
theorem d_NE_missing_50 : decode prog_6_method_4_code 50 = .ok (.invokestatic 28, 3) := by decide +kernel
theorem d_NE_missing_53 : decode prog_6_method_4_code 53 = .ok (.iadd, 1) := by decide +kernel
theorem d_NE_missing_54 : decode prog_6_method_4_code 54 = .ok (.istore_n 3, 1) := by decide +kernel
theorem d_NE_missing_55 : decode prog_6_method_4_code 55 = .ok (.iinc 4 1, 3) := by decide +kernel
theorem d_NE_missing_58 : decode prog_6_method_4_code 58 = .ok (.goto (-46), 3) := by decide +kernel
theorem d_NE_missing_61 : decode prog_6_method_4_code 61 = .ok (.iload_n 3, 1) := by decide +kernel
theorem d_NE_missing_62 : decode prog_6_method_4_code 62 = .ok (.iconst 2, 1) := by decide +kernel
theorem d_NE_missing_63 : decode prog_6_method_4_code 63 = .ok (.idiv, 1) := by decide +kernel
theorem d_NE_missing_64 : decode prog_6_method_4_code 64 = .ok (.ireturn, 1) := by decide +kernel
def NE_missing_12b (h0 : Nat) (v2 : Int32) (v3 : Int32) (v4 : Int32) (I : jM) (K : Int32 → Prop) (X12 : Int32 × Int32 → Prop) : Prop :=
  (((I h0 2) ≤ v4 → K (v3 / (2 : Int32))) ∧ (¬ (I h0 2) ≤ v4 → ((¬ ((v2 >>> (v4 &&& 31)) &&& (1 : Int32)) = (1 : Int32) → X12 (v3, (v4 + 1))) ∧ (((v2 >>> (v4 &&& 31)) &&& (1 : Int32)) = (1 : Int32) → (vp_in v4 24 ∧ JI_bitCount ((v2 &&& ((I (jr h0 0) v4.toNatClampNeg) ^^^ (-1 : Int32))) &&& (((1 : Int32) <<< (v4 &&& 31)) ^^^ (-1 : Int32))) I (fun r_1 => (∀ v3_2 : Int32, v3_2 = (v3 + r_1) → X12 (v3_2, (v4 + 1)))))))))
def NE_missing_12 (h0 : Nat) (v2 : Int32) (v3 : Int32) (v4 : Int32) (I : jM) (K : Int32 → Prop) : Prop :=
  lp (fun (X12 : Int32 × Int32 → Prop) (s : Int32 × Int32) => NE_missing_12b h0 v2 s.1 s.2 I K X12) (v3, v4)
set_option maxRecDepth 100000 in
set_option maxHeartbeats 4000000 in
theorem kb_NE_missing_12 {Z : jZ} {E : jE} (C : jC Z E prog_6_method_4_code 5 "OutOrder$Net" 1 20) (hr : (jZh Z).sig.returnType = (some .int)) (hE : E.2.2.2 = jLX)  (h0 : Nat) (v2 : Int32) (v3 : Int32) (v4 : Int32) (I : jM) (g_h0 : jOB E 4 h0) {K : Int32 → Prop} {X12 : Int32 × Int32 → Prop} (hX12 : ∀ s : Int32 × Int32, X12 s → jJ Z E 5 (jQi Z E (fun r I2 => I = I2 ∧ K r)) 12 [(0, .ref (E.2.2.1 h0)), (2, .int v2), (3, .int s.1), (4, .int s.2)] [] I) (h : NE_missing_12b h0 v2 v3 v4 I K X12) : jJ Z E 5 (jQi Z E (fun r I2 => I = I2 ∧ K r)) 12 [(0, .ref (E.2.2.1 h0)), (2, .int v2), (3, .int v3), (4, .int v4)] [] I := by
  unfold NE_missing_12b at h
  refine j_iload C d_NE_missing_12 3 rfl ?_
  refine j_aload_n C d_NE_missing_14 rfl 0 rfl ?_
  refine fg_NE_15 C g_h0 d_NE_missing_15 ?_
  refine j_icmp_ge C d_NE_missing_18 (tgt := 61) (by decide) (fun c18 => ?_) (fun c18 => ?_)
  · have h := h.1 c18
    refine j_iload_n C d_NE_missing_61 rfl 2 rfl ?_
    refine j_iconst C d_NE_missing_62 ic_2 ?_
    refine j_idiv C d_NE_missing_63 (by decide) ?_
    exact j_iret C hr d_NE_missing_64 ⟨rfl, h⟩
  · have h := h.2 c18
    refine j_iload_n C d_NE_missing_21 rfl 1 rfl ?_
    refine j_iload C d_NE_missing_22 3 rfl ?_
    refine j_ishr C d_NE_missing_24 ?_
    refine j_iconst C d_NE_missing_25 ic_1 ?_
    refine j_iand C d_NE_missing_26 ?_
    refine j_iconst C d_NE_missing_27 ic_1 ?_
    refine j_icmp_ne C d_NE_missing_28 (tgt := 55) (by decide) (fun c28 => ?_) (fun c28 => ?_)
    · have h := h.1 c28
      refine j_iinc C d_NE_missing_55 3 rfl (v := (v4 + 1)) rfl (by decide) (lv' := [(4, .int (v4 + 1)), (0, .ref (E.2.2.1 h0)), (2, .int v2), (3, .int v3)]) rfl ?_
      refine j_goto C d_NE_missing_58 (tgt := 12) (by decide) ?_
      refine j_lv [1, 2, 3, 0] rfl ?_
      exact hX12 (v3, (v4 + 1)) h
    · have h := h.2 c28
      refine j_iload_n C d_NE_missing_31 rfl 2 rfl ?_
      refine j_iload_n C d_NE_missing_32 rfl 1 rfl ?_
      refine j_aload_n C d_NE_missing_33 rfl 0 rfl ?_
      refine fg_NE_9 C g_h0 d_NE_missing_34 ?_
      refine j_iload C d_NE_missing_37 3 rfl ?_
      obtain ⟨hi, h⟩ := h
      refine j_iaload C (sh_NE_0 hE g_h0) hi d_NE_missing_39 ?_
      refine j_iconst C d_NE_missing_40 ic_m1 ?_
      refine j_ixor C d_NE_missing_41 ?_
      refine j_iand C d_NE_missing_42 ?_
      refine j_iconst C d_NE_missing_43 ic_1 ?_
      refine j_iload C d_NE_missing_44 3 rfl ?_
      refine j_ishl C d_NE_missing_46 ?_
      refine j_iconst C d_NE_missing_47 ic_m1 ?_
      refine j_ixor C d_NE_missing_48 ?_
      refine j_iand C d_NE_missing_49 ?_
      refine j_callSi (As := [.int ((v2 &&& ((I (jr h0 0) v4.toNatClampNeg) ^^^ (-1 : Int32))) &&& (((1 : Int32) <<< (v4 &&& 31)) ^^^ (-1 : Int32)))]) C cw_NE_28 w_412 rfl rfl (by decide) (by decide) (Nat.le_of_ble_eq_true rfl) d_NE_missing_50 (s_JI_bitCount C.ok  h) (fun r_1 I2 h => ?_)
      obtain ⟨rfl, h⟩ := h
      refine j_iadd C d_NE_missing_53 ?_
      refine j_topi (fun v3_2 ev3_2 => ?_)
      have h := h v3_2 ev3_2
      refine j_istore_n C d_NE_missing_54 rfl (by decide) (lv' := [(3, .int v3_2), (0, .ref (E.2.2.1 h0)), (2, .int v2), (4, .int v4)]) rfl ?_
      refine j_iinc C d_NE_missing_55 3 rfl (v := (v4 + 1)) rfl (by decide) (lv' := [(4, .int (v4 + 1)), (3, .int v3_2), (0, .ref (E.2.2.1 h0)), (2, .int v2)]) rfl ?_
      refine j_goto C d_NE_missing_58 (tgt := 12) (by decide) ?_
      refine j_lv [2, 3, 1, 0] rfl ?_
      exact hX12 (v3_2, (v4 + 1)) h
theorem k_NE_missing_12 {Z : jZ} {E : jE} (C : jC Z E prog_6_method_4_code 5 "OutOrder$Net" 1 20) (hr : (jZh Z).sig.returnType = (some .int)) (hE : E.2.2.2 = jLX)  (h0 : Nat) (v2 : Int32) (v3 : Int32) (v4 : Int32) (I : jM) (g_h0 : jOB E 4 h0) {K : Int32 → Prop} (h : NE_missing_12 h0 v2 v3 v4 I K) : jJ Z E 5 (jQi Z E (fun r I2 => I = I2 ∧ K r)) 12 [(0, .ref (E.2.2.1 h0)), (2, .int v2), (3, .int v3), (4, .int v4)] [] I := by
  unfold NE_missing_12 at h
  exact h (fun s => jJ Z E 5 (jQi Z E (fun r I2 => I = I2 ∧ K r)) 12 [(0, .ref (E.2.2.1 h0)), (2, .int v2), (3, .int s.1), (4, .int s.2)] [] I) (fun s hs => kb_NE_missing_12 C hr hE h0 v2 s.1 s.2 I g_h0 (fun s2 h2 => h2) hs)
/-- OutOrder$Net.missing(I)I -/
def NE_missing (h0 : Nat) (v1 : Int32) (I : jM) (K : Int32 → Prop) : Prop :=
  (vp_in v1 24 ∧ (∀ v2_1 : Int32, v2_1 = (I (jr h0 0) v1.toNatClampNeg) → NE_missing_12 h0 v2_1 (0 : Int32) (0 : Int32) I K))
set_option maxRecDepth 100000 in
set_option maxHeartbeats 4000000 in
theorem s_NE_missing {l : Launch} {E : jE} (ok : jOK E) (hE : E.2.2.2 = jLX) {h0 : Nat} {v1 : Int32} (g_h0 : jOB E 4 h0) {I : jM} {K : Int32 → Prop} (h : NE_missing h0 v1 I K) : jSi l E ⟨"OutOrder$Net", "missing", "(I)I"⟩ prog_6_method_4_code 5 (some .int) 1 20 [.ref (E.2.2.1 h0), .int v1] I (fun r I2 => I = I2 ∧ K r) := by
  refine jS_ofF (own := "OutOrder$Net") (by decide +kernel) rfl ok (Nat.le_of_ble_eq_true rfl) (fun Z _ C hr => ?_)
  show jJ Z E 5 (jQi Z E (fun r I2 => I = I2 ∧ K r)) 0 [(0, .ref (E.2.2.1 h0)), (1, .int v1)] [] I
  unfold NE_missing at h
  refine j_aload_n C d_NE_missing_0 rfl 0 rfl ?_
  refine fg_NE_9 C g_h0 d_NE_missing_1 ?_
  refine j_iload_n C d_NE_missing_4 rfl 1 rfl ?_
  obtain ⟨hi, h⟩ := h
  refine j_iaload C (sh_NE_0 hE g_h0) hi d_NE_missing_5 ?_
  refine j_topi (fun v2_1 ev2_1 => ?_)
  have h := h v2_1 ev2_1
  refine j_istore_n C d_NE_missing_6 rfl (by decide) (lv' := [(2, .int v2_1), (0, .ref (E.2.2.1 h0)), (1, .int v1)]) rfl ?_
  refine j_iconst C d_NE_missing_7 ic_0 ?_
  refine j_istore_n C d_NE_missing_8 rfl (by decide) (lv' := [(3, .int (0 : Int32)), (2, .int v2_1), (0, .ref (E.2.2.1 h0)), (1, .int v1)]) rfl ?_
  refine j_iconst C d_NE_missing_9 ic_0 ?_
  refine j_istore C d_NE_missing_10 (by decide) (lv' := [(4, .int (0 : Int32)), (3, .int (0 : Int32)), (2, .int v2_1), (0, .ref (E.2.2.1 h0)), (1, .int v1)]) rfl ?_
  refine j_lv [3, 2, 1, 0] rfl ?_
  exact k_NE_missing_12 C hr hE h0 v2_1 (0 : Int32) (0 : Int32) I g_h0 h
theorem d_NE_remove_0 : decode prog_6_method_5_code 0 = .ok (.aload_n 0, 1) := by decide +kernel
theorem d_NE_remove_1 : decode prog_6_method_5_code 1 = .ok (.dup, 1) := by decide +kernel
theorem d_NE_remove_2 : decode prog_6_method_5_code 2 = .ok (.getfield 22, 3) := by decide +kernel
theorem d_NE_remove_5 : decode prog_6_method_5_code 5 = .ok (.iconst 1, 1) := by decide +kernel
theorem d_NE_remove_6 : decode prog_6_method_5_code 6 = .ok (.iload_n 1, 1) := by decide +kernel
theorem d_NE_remove_7 : decode prog_6_method_5_code 7 = .ok (.ishl, 1) := by decide +kernel
theorem d_NE_remove_8 : decode prog_6_method_5_code 8 = .ok (.iconst (-1), 1) := by decide +kernel
theorem d_NE_remove_9 : decode prog_6_method_5_code 9 = .ok (.ixor, 1) := by decide +kernel
theorem d_NE_remove_10 : decode prog_6_method_5_code 10 = .ok (.iand, 1) := by decide +kernel
theorem d_NE_remove_11 : decode prog_6_method_5_code 11 = .ok (.putfield 22, 3) := by decide +kernel
theorem d_NE_remove_14 : decode prog_6_method_5_code 14 = .ok (.iload_n 1, 1) := by decide +kernel
theorem d_NE_remove_15 : decode prog_6_method_5_code 15 = .ok (.aload_n 0, 1) := by decide +kernel
theorem d_NE_remove_16 : decode prog_6_method_5_code 16 = .ok (.getfield 9, 3) := by decide +kernel
theorem d_NE_remove_19 : decode prog_6_method_5_code 19 = .ok (.aload_n 0, 1) := by decide +kernel
theorem d_NE_remove_20 : decode prog_6_method_5_code 20 = .ok (.getfield 9, 3) := by decide +kernel
theorem d_NE_remove_23 : decode prog_6_method_5_code 23 = .ok (.aload_n 0, 1) := by decide +kernel
theorem d_NE_remove_24 : decode prog_6_method_5_code 24 = .ok (.getfield 15, 3) := by decide +kernel
theorem d_NE_remove_27 : decode prog_6_method_5_code 27 = .ok (.invokestatic 34, 3) := by decide +kernel
theorem d_NE_remove_30 : decode prog_6_method_5_code 30 = .ok (.return_, 1) := by decide +kernel
/-- OutOrder$Net.remove(I)V -/
def NE_remove (h0 : Nat) (v1 : Int32) (I : jM) (K : jM → Prop) : Prop :=
  (∀ I_1 : jM, I_1 = jwr I h0 1 ((I h0 1) &&& (((1 : Int32) <<< (v1 &&& 31)) ^^^ (-1 : Int32))) → NE_copyWithout v1 (jr h0 0) (jr h0 0) (I_1 h0 2) I_1 (fun I_3 => K I_3))
set_option maxRecDepth 100000 in
set_option maxHeartbeats 4000000 in
theorem s_NE_remove {l : Launch} {E : jE} (ok : jOK E) (hE : E.2.2.2 = jLX) {h0 : Nat} {v1 : Int32} (g_h0 : jOB E 4 h0) {I : jM} {K : jM → Prop} (h : NE_remove h0 v1 I K) : jSv l E ⟨"OutOrder$Net", "remove", "(I)V"⟩ prog_6_method_5_code 2 none 1 26 [.ref (E.2.2.1 h0), .int v1] I K := by
  refine jS_ofF (own := "OutOrder$Net") (by decide +kernel) rfl ok (Nat.le_of_ble_eq_true rfl) (fun Z _ C hr => ?_)
  show jJ Z E 2 (jQv Z E K) 0 [(0, .ref (E.2.2.1 h0)), (1, .int v1)] [] I
  unfold NE_remove at h
  refine j_aload_n C d_NE_remove_0 rfl 0 rfl ?_
  refine j_dup C d_NE_remove_1 rfl ?_
  refine fg_NE_22 C g_h0 d_NE_remove_2 ?_
  refine j_iconst C d_NE_remove_5 ic_1 ?_
  refine j_iload_n C d_NE_remove_6 rfl 1 rfl ?_
  refine j_ishl C d_NE_remove_7 ?_
  refine j_iconst C d_NE_remove_8 ic_m1 ?_
  refine j_ixor C d_NE_remove_9 ?_
  refine j_iand C d_NE_remove_10 ?_
  refine fp_NE_22 C g_h0 d_NE_remove_11 ?_
  have h := h _ rfl
  generalize eI_1 : (jwr I h0 1 ((I h0 1) &&& (((1 : Int32) <<< (v1 &&& 31)) ^^^ (-1 : Int32))) : jM) = I_1 at h ⊢
  refine j_iload_n C d_NE_remove_14 rfl 1 rfl ?_
  refine j_aload_n C d_NE_remove_15 rfl 0 rfl ?_
  refine fg_NE_9 C g_h0 d_NE_remove_16 ?_
  refine j_aload_n C d_NE_remove_19 rfl 0 rfl ?_
  refine fg_NE_9 C g_h0 d_NE_remove_20 ?_
  refine j_aload_n C d_NE_remove_23 rfl 0 rfl ?_
  refine fg_NE_15 C g_h0 d_NE_remove_24 ?_
  refine j_callSv (As := [.int v1, .ref (E.2.2.1 (jr h0 0)), .ref (E.2.2.1 (jr h0 0)), .int (I_1 h0 2)]) C cw_NE_34 w_431 rfl rfl (by decide) (by decide) (Nat.le_of_ble_eq_true rfl) d_NE_remove_27 (s_NE_copyWithout C.ok (((sh_NE_0 hE g_h0)).self) (((sh_NE_0 hE g_h0)).self) h) (fun I_3 h => ?_)
  exact j_vret C hr d_NE_remove_30 h
theorem d_NE_take_0 : decode prog_6_method_2_code 0 = .ok (.aload_n 0, 1) := by decide +kernel
theorem d_NE_take_1 : decode prog_6_method_2_code 1 = .ok (.aload_n 1, 1) := by decide +kernel
theorem d_NE_take_2 : decode prog_6_method_2_code 2 = .ok (.getfield 19, 3) := by decide +kernel
theorem d_NE_take_5 : decode prog_6_method_2_code 5 = .ok (.putfield 15, 3) := by decide +kernel
theorem d_NE_take_8 : decode prog_6_method_2_code 8 = .ok (.aload_n 0, 1) := by decide +kernel
theorem d_NE_take_9 : decode prog_6_method_2_code 9 = .ok (.iconst 1, 1) := by decide +kernel
theorem d_NE_take_10 : decode prog_6_method_2_code 10 = .ok (.aload_n 0, 1) := by decide +kernel
theorem d_NE_take_11 : decode prog_6_method_2_code 11 = .ok (.getfield 15, 3) := by decide +kernel
theorem d_NE_take_14 : decode prog_6_method_2_code 14 = .ok (.ishl, 1) := by decide +kernel
theorem d_NE_take_15 : decode prog_6_method_2_code 15 = .ok (.iconst 1, 1) := by decide +kernel
theorem d_NE_take_16 : decode prog_6_method_2_code 16 = .ok (.isub, 1) := by decide +kernel
theorem d_NE_take_17 : decode prog_6_method_2_code 17 = .ok (.putfield 22, 3) := by decide +kernel
theorem d_NE_take_20 : decode prog_6_method_2_code 20 = .ok (.iconst 0, 1) := by decide +kernel
theorem d_NE_take_21 : decode prog_6_method_2_code 21 = .ok (.istore_n 2, 1) := by decide +kernel
theorem d_NE_take_22 : decode prog_6_method_2_code 22 = .ok (.iload_n 2, 1) := by decide +kernel
theorem d_NE_take_23 : decode prog_6_method_2_code 23 = .ok (.aload_n 0, 1) := by decide +kernel
theorem d_NE_take_24 : decode prog_6_method_2_code 24 = .ok (.getfield 15, 3) := by decide +kernel
theorem d_NE_take_27 : decode prog_6_method_2_code 27 = .ok (.if_icmp .ge 21, 3) := by decide +kernel
theorem d_NE_take_30 : decode prog_6_method_2_code 30 = .ok (.aload_n 0, 1) := by decide +kernel
theorem d_NE_take_31 : decode prog_6_method_2_code 31 = .ok (.getfield 9, 3) := by decide +kernel
theorem d_NE_take_34 : decode prog_6_method_2_code 34 = .ok (.iload_n 2, 1) := by decide +kernel
theorem d_NE_take_35 : decode prog_6_method_2_code 35 = .ok (.aload_n 1, 1) := by decide +kernel
theorem d_NE_take_36 : decode prog_6_method_2_code 36 = .ok (.getfield 25, 3) := by decide +kernel
theorem d_NE_take_39 : decode prog_6_method_2_code 39 = .ok (.iload_n 2, 1) := by decide +kernel
theorem d_NE_take_40 : decode prog_6_method_2_code 40 = .ok (.iaload, 1) := by decide +kernel
theorem d_NE_take_41 : decode prog_6_method_2_code 41 = .ok (.iastore, 1) := by decide +kernel
theorem d_NE_take_42 : decode prog_6_method_2_code 42 = .ok (.iinc 2 1, 3) := by decide +kernel
theorem d_NE_take_45 : decode prog_6_method_2_code 45 = .ok (.goto (-23), 3) := by decide +kernel
theorem d_NE_take_48 : decode prog_6_method_2_code 48 = .ok (.return_, 1) := by decide +kernel
def NE_take_22b (h0 : Nat) (h1 : Nat) (v2 : Int32) (I : jM) (K : jM → Prop) (X22 : Int32 × jM → Prop) : Prop :=
  (((I h0 2) ≤ v2 → K I) ∧ (¬ (I h0 2) ≤ v2 → (vp_in v2 24 ∧ (vp_in v2 24 ∧ (∀ I_1 : jM, I_1 = jwr I (jr h0 0) v2.toNatClampNeg (I (jr h1 2) v2.toNatClampNeg) → X22 ((v2 + 1), I_1))))))
def NE_take_22 (h0 : Nat) (h1 : Nat) (v2 : Int32) (I : jM) (K : jM → Prop) : Prop :=
  lp (fun (X22 : Int32 × jM → Prop) (s : Int32 × jM) => NE_take_22b h0 h1 s.1 s.2 K X22) (v2, I)
set_option maxRecDepth 100000 in
set_option maxHeartbeats 4000000 in
theorem kb_NE_take_22 {Z : jZ} {E : jE} (C : jC Z E prog_6_method_2_code 3 "OutOrder$Net" 0 0) (hr : (jZh Z).sig.returnType = none) (hE : E.2.2.2 = jLX)  (h0 : Nat) (h1 : Nat) (v2 : Int32) (I : jM) (g_h0 : jOB E 4 h0) (g_h1 : jOB E 8 h1) {K : jM → Prop} {X22 : Int32 × jM → Prop} (hX22 : ∀ s : Int32 × jM, X22 s → jJ Z E 3 (jQv Z E K) 22 [(0, .ref (E.2.2.1 h0)), (1, .ref (E.2.2.1 h1)), (2, .int s.1)] [] s.2) (h : NE_take_22b h0 h1 v2 I K X22) : jJ Z E 3 (jQv Z E K) 22 [(0, .ref (E.2.2.1 h0)), (1, .ref (E.2.2.1 h1)), (2, .int v2)] [] I := by
  unfold NE_take_22b at h
  refine j_iload_n C d_NE_take_22 rfl 2 rfl ?_
  refine j_aload_n C d_NE_take_23 rfl 0 rfl ?_
  refine fg_NE_15 C g_h0 d_NE_take_24 ?_
  refine j_icmp_ge C d_NE_take_27 (tgt := 48) (by decide) (fun c27 => ?_) (fun c27 => ?_)
  · have h := h.1 c27
    exact j_vret C hr d_NE_take_48 h
  · have h := h.2 c27
    refine j_aload_n C d_NE_take_30 rfl 0 rfl ?_
    refine fg_NE_9 C g_h0 d_NE_take_31 ?_
    refine j_iload_n C d_NE_take_34 rfl 2 rfl ?_
    refine j_aload_n C d_NE_take_35 rfl 1 rfl ?_
    refine fg_NE_25 C g_h1 d_NE_take_36 ?_
    refine j_iload_n C d_NE_take_39 rfl 2 rfl ?_
    obtain ⟨hi, h⟩ := h
    refine j_iaload C (sh_TA_2 hE g_h1) hi d_NE_take_40 ?_
    obtain ⟨hi, h⟩ := h
    refine j_iastore C (sh_NE_0 hE g_h0) hi d_NE_take_41 ?_
    have h := h _ rfl
    generalize eI_1 : (jwr I (jr h0 0) v2.toNatClampNeg (I (jr h1 2) v2.toNatClampNeg) : jM) = I_1 at h ⊢
    refine j_iinc C d_NE_take_42 2 rfl (v := (v2 + 1)) rfl (by decide) (lv' := [(2, .int (v2 + 1)), (0, .ref (E.2.2.1 h0)), (1, .ref (E.2.2.1 h1))]) rfl ?_
    refine j_goto C d_NE_take_45 (tgt := 22) (by decide) ?_
    refine j_lv [1, 2, 0] rfl ?_
    exact hX22 ((v2 + 1), I_1) h
theorem k_NE_take_22 {Z : jZ} {E : jE} (C : jC Z E prog_6_method_2_code 3 "OutOrder$Net" 0 0) (hr : (jZh Z).sig.returnType = none) (hE : E.2.2.2 = jLX)  (h0 : Nat) (h1 : Nat) (v2 : Int32) (I : jM) (g_h0 : jOB E 4 h0) (g_h1 : jOB E 8 h1) {K : jM → Prop} (h : NE_take_22 h0 h1 v2 I K) : jJ Z E 3 (jQv Z E K) 22 [(0, .ref (E.2.2.1 h0)), (1, .ref (E.2.2.1 h1)), (2, .int v2)] [] I := by
  unfold NE_take_22 at h
  exact h (fun s => jJ Z E 3 (jQv Z E K) 22 [(0, .ref (E.2.2.1 h0)), (1, .ref (E.2.2.1 h1)), (2, .int s.1)] [] s.2) (fun s hs => kb_NE_take_22 C hr hE h0 h1 s.1 s.2 g_h0 g_h1 (fun s2 h2 => h2) hs)
/-- OutOrder$Net.take(LOutOrder$Table;)V -/
def NE_take (h0 : Nat) (h1 : Nat) (I : jM) (K : jM → Prop) : Prop :=
  (∀ I_1 : jM, I_1 = jwr I h0 2 (I h1 4) → (∀ I_2 : jM, I_2 = jwr I_1 h0 1 (((1 : Int32) <<< ((I_1 h0 2) &&& 31)) - (1 : Int32)) → NE_take_22 h0 h1 (0 : Int32) I_2 K))
set_option maxRecDepth 100000 in
set_option maxHeartbeats 4000000 in
theorem s_NE_take {l : Launch} {E : jE} (ok : jOK E) (hE : E.2.2.2 = jLX) {h0 : Nat} {h1 : Nat} (g_h0 : jOB E 4 h0) (g_h1 : jOB E 8 h1) {I : jM} {K : jM → Prop} (h : NE_take h0 h1 I K) : jSv l E ⟨"OutOrder$Net", "take", "(LOutOrder$Table;)V"⟩ prog_6_method_2_code 3 none 0 0 [.ref (E.2.2.1 h0), .ref (E.2.2.1 h1)] I K := by
  refine jS_ofF (own := "OutOrder$Net") (by decide +kernel) rfl ok (Nat.le_of_ble_eq_true rfl) (fun Z _ C hr => ?_)
  show jJ Z E 3 (jQv Z E K) 0 [(0, .ref (E.2.2.1 h0)), (1, .ref (E.2.2.1 h1))] [] I
  unfold NE_take at h
  refine j_aload_n C d_NE_take_0 rfl 0 rfl ?_
  refine j_aload_n C d_NE_take_1 rfl 1 rfl ?_
  refine fg_NE_19 C g_h1 d_NE_take_2 ?_
  refine fp_NE_15 C g_h0 d_NE_take_5 ?_
  have h := h _ rfl
  generalize eI_1 : (jwr I h0 2 (I h1 4) : jM) = I_1 at h ⊢
  refine j_aload_n C d_NE_take_8 rfl 0 rfl ?_
  refine j_iconst C d_NE_take_9 ic_1 ?_
  refine j_aload_n C d_NE_take_10 rfl 0 rfl ?_
  refine fg_NE_15 C g_h0 d_NE_take_11 ?_
  refine j_ishl C d_NE_take_14 ?_
  refine j_iconst C d_NE_take_15 ic_1 ?_
  refine j_isub C d_NE_take_16 ?_
  refine fp_NE_22 C g_h0 d_NE_take_17 ?_
  have h := h _ rfl
  generalize eI_2 : (jwr I_1 h0 1 (((1 : Int32) <<< ((I_1 h0 2) &&& 31)) - (1 : Int32)) : jM) = I_2 at h ⊢
  refine j_iconst C d_NE_take_20 ic_0 ?_
  refine j_istore_n C d_NE_take_21 rfl (by decide) (lv' := [(2, .int (0 : Int32)), (0, .ref (E.2.2.1 h0)), (1, .ref (E.2.2.1 h1))]) rfl ?_
  refine j_lv [1, 2, 0] rfl ?_
  exact k_NE_take_22 C hr hE h0 h1 (0 : Int32) I_2 g_h0 g_h1 h
end
