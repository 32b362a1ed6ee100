section
-- ===== PART A: goes FIRST, ahead of the names: the tables' words, and 'selects' of the private methods out of them =====
/-- a private method of a class that the tables say can be made, by its rows of tables_1 -/
def lw_okq (q : MethodName × Nat) : Prop := (q.1.cls ≠ "java/lang/invoke/MethodHandle" ∧ q.1.cls ≠ "java/lang/invoke/VarHandle") ∧ Cond.instantiable q.1.cls q.2 ∈ tables_1 ∧ Cond.privateMethod q.1 ∈ tables_1 ∧ Cond.instanceMethod q.1 ∈ tables_1
theorem lw_p0 : lw_okq (⟨"OutOrder", "startAnew", "(II)V"⟩, 11) := ⟨⟨by decide +kernel, by decide +kernel⟩, List.mem_of_getElem? (i := 18) (by decide +kernel), List.mem_of_getElem? (i := 277) (by decide +kernel), List.mem_of_getElem? (i := 278) (by decide +kernel)⟩
theorem lw_p1 : lw_okq (⟨"OutOrder", "numbersChanged", "()V"⟩, 11) := ⟨⟨by decide +kernel, by decide +kernel⟩, List.mem_of_getElem? (i := 18) (by decide +kernel), List.mem_of_getElem? (i := 293) (by decide +kernel), List.mem_of_getElem? (i := 294) (by decide +kernel)⟩
theorem lw_p2 : lw_okq (⟨"OutOrder", "orderChanged", "()V"⟩, 11) := ⟨⟨by decide +kernel, by decide +kernel⟩, List.mem_of_getElem? (i := 18) (by decide +kernel), List.mem_of_getElem? (i := 305) (by decide +kernel), List.mem_of_getElem? (i := 306) (by decide +kernel)⟩
theorem lw_p3 : lw_okq (⟨"OutOrder", "refuse", "(I)I"⟩, 11) := ⟨⟨by decide +kernel, by decide +kernel⟩, List.mem_of_getElem? (i := 18) (by decide +kernel), List.mem_of_getElem? (i := 351) (by decide +kernel), List.mem_of_getElem? (i := 352) (by decide +kernel)⟩
theorem lw_p4 : lw_okq (⟨"OutOrder", "isNobody", "(I)Z"⟩, 11) := ⟨⟨by decide +kernel, by decide +kernel⟩, List.mem_of_getElem? (i := 18) (by decide +kernel), List.mem_of_getElem? (i := 362) (by decide +kernel), List.mem_of_getElem? (i := 363) (by decide +kernel)⟩
theorem lw_p5 : lw_okq (⟨"OutOrder", "arrange", "(I)V"⟩, 11) := ⟨⟨by decide +kernel, by decide +kernel⟩, List.mem_of_getElem? (i := 18) (by decide +kernel), List.mem_of_getElem? (i := 393) (by decide +kernel), List.mem_of_getElem? (i := 394) (by decide +kernel)⟩
theorem lw_p6 : lw_okq (⟨"OutOrder", "knownMinima", "()LOutOrder$Least;"⟩, 11) := ⟨⟨by decide +kernel, by decide +kernel⟩, List.mem_of_getElem? (i := 18) (by decide +kernel), List.mem_of_getElem? (i := 419) (by decide +kernel), List.mem_of_getElem? (i := 420) (by decide +kernel)⟩
theorem lw_p7 : lw_okq (⟨"OutOrder$Least", "makeNet", "(III)V"⟩, 4) := ⟨⟨by decide +kernel, by decide +kernel⟩, List.mem_of_getElem? (i := 142) (by decide +kernel), List.mem_of_getElem? (i := 427) (by decide +kernel), List.mem_of_getElem? (i := 428) (by decide +kernel)⟩
theorem lw_p8 : lw_okq (⟨"OutOrder$Least", "weigh", "(II)V"⟩, 4) := ⟨⟨by decide +kernel, by decide +kernel⟩, List.mem_of_getElem? (i := 142) (by decide +kernel), List.mem_of_getElem? (i := 437) (by decide +kernel), List.mem_of_getElem? (i := 438) (by decide +kernel)⟩
theorem lw_p9 : lw_okq (⟨"OutOrder$Least", "firstGood", "(IZ)I"⟩, 4) := ⟨⟨by decide +kernel, by decide +kernel⟩, List.mem_of_getElem? (i := 142) (by decide +kernel), List.mem_of_getElem? (i := 453) (by decide +kernel), List.mem_of_getElem? (i := 454) (by decide +kernel)⟩
theorem lw_p10 : lw_okq (⟨"OutOrder$Least", "isGood", "(IIZ)Z"⟩, 4) := ⟨⟨by decide +kernel, by decide +kernel⟩, List.mem_of_getElem? (i := 142) (by decide +kernel), List.mem_of_getElem? (i := 461) (by decide +kernel), List.mem_of_getElem? (i := 462) (by decide +kernel)⟩
theorem lw_p11 : lw_okq (⟨"OutOrder$Rules", "cheapest", "(II)I"⟩, 1) := ⟨⟨by decide +kernel, by decide +kernel⟩, List.mem_of_getElem? (i := 106) (by decide +kernel), List.mem_of_getElem? (i := 476) (by decide +kernel), List.mem_of_getElem? (i := 477) (by decide +kernel)⟩
theorem lw_p12 : lw_okq (⟨"OutOrder$Rules", "cost", "(II)I"⟩, 1) := ⟨⟨by decide +kernel, by decide +kernel⟩, List.mem_of_getElem? (i := 106) (by decide +kernel), List.mem_of_getElem? (i := 480) (by decide +kernel), List.mem_of_getElem? (i := 481) (by decide +kernel)⟩
theorem lw_p13 : lw_okq (⟨"OutOrder", "fullNet", "()LOutOrder$FullNet;"⟩, 11) := ⟨⟨by decide +kernel, by decide +kernel⟩, List.mem_of_getElem? (i := 18) (by decide +kernel), List.mem_of_getElem? (i := 490) (by decide +kernel), List.mem_of_getElem? (i := 491) (by decide +kernel)⟩
theorem lw_p14 : lw_okq (⟨"OutOrder$FullNet", "listFills", "(I)V"⟩, 10) := ⟨⟨by decide +kernel, by decide +kernel⟩, List.mem_of_getElem? (i := 166) (by decide +kernel), List.mem_of_getElem? (i := 501) (by decide +kernel), List.mem_of_getElem? (i := 502) (by decide +kernel)⟩
theorem lw_p15 : lw_okq (⟨"OutOrder$FullNet", "makeTree", "(LOutOrder$Row;)V"⟩, 10) := ⟨⟨by decide +kernel, by decide +kernel⟩, List.mem_of_getElem? (i := 166) (by decide +kernel), List.mem_of_getElem? (i := 506) (by decide +kernel), List.mem_of_getElem? (i := 507) (by decide +kernel)⟩
def lw_privs_1 : List (MethodName × Nat) := [(⟨"OutOrder", "startAnew", "(II)V"⟩, 11), (⟨"OutOrder", "numbersChanged", "()V"⟩, 11), (⟨"OutOrder", "orderChanged", "()V"⟩, 11), (⟨"OutOrder", "refuse", "(I)I"⟩, 11), (⟨"OutOrder", "isNobody", "(I)Z"⟩, 11), (⟨"OutOrder", "arrange", "(I)V"⟩, 11), (⟨"OutOrder", "knownMinima", "()LOutOrder$Least;"⟩, 11), (⟨"OutOrder$Least", "makeNet", "(III)V"⟩, 4), (⟨"OutOrder$Least", "weigh", "(II)V"⟩, 4), (⟨"OutOrder$Least", "firstGood", "(IZ)I"⟩, 4), (⟨"OutOrder$Least", "isGood", "(IIZ)Z"⟩, 4), (⟨"OutOrder$Rules", "cheapest", "(II)I"⟩, 1), (⟨"OutOrder$Rules", "cost", "(II)I"⟩, 1), (⟨"OutOrder", "fullNet", "()LOutOrder$FullNet;"⟩, 11), (⟨"OutOrder$FullNet", "listFills", "(I)V"⟩, 10), (⟨"OutOrder$FullNet", "makeTree", "(LOutOrder$Row;)V"⟩, 10)]
theorem lw_r1 : ∀ q ∈ lw_privs_1, lw_okq q := List.forall_mem_cons.mpr ⟨lw_p0, List.forall_mem_cons.mpr ⟨lw_p1, List.forall_mem_cons.mpr ⟨lw_p2, List.forall_mem_cons.mpr ⟨lw_p3, List.forall_mem_cons.mpr ⟨lw_p4, List.forall_mem_cons.mpr ⟨lw_p5, List.forall_mem_cons.mpr ⟨lw_p6, List.forall_mem_cons.mpr ⟨lw_p7, List.forall_mem_cons.mpr ⟨lw_p8, List.forall_mem_cons.mpr ⟨lw_p9, List.forall_mem_cons.mpr ⟨lw_p10, List.forall_mem_cons.mpr ⟨lw_p11, List.forall_mem_cons.mpr ⟨lw_p12, List.forall_mem_cons.mpr ⟨lw_p13, List.forall_mem_cons.mpr ⟨lw_p14, List.forall_mem_cons.mpr ⟨lw_p15, fun _ h => absurd h List.not_mem_nil⟩⟩⟩⟩⟩⟩⟩⟩⟩⟩⟩⟩⟩⟩⟩⟩
theorem lw_p16 : lw_okq (⟨"OutOrder$FullNet", "makeGroups", "(I)V"⟩, 10) := ⟨⟨by decide +kernel, by decide +kernel⟩, List.mem_of_getElem? (i := 166) (by decide +kernel), List.mem_of_getElem? (i := 513) (by decide +kernel), List.mem_of_getElem? (i := 514) (by decide +kernel)⟩
theorem lw_p17 : lw_okq (⟨"OutOrder$FullNet", "isWithinAnother", "(II)Z"⟩, 10) := ⟨⟨by decide +kernel, by decide +kernel⟩, List.mem_of_getElem? (i := 166) (by decide +kernel), List.mem_of_getElem? (i := 517) (by decide +kernel), List.mem_of_getElem? (i := 518) (by decide +kernel)⟩
theorem lw_p18 : lw_okq (⟨"OutOrder$FullNet", "insertGroup", "(I)V"⟩, 10) := ⟨⟨by decide +kernel, by decide +kernel⟩, List.mem_of_getElem? (i := 166) (by decide +kernel), List.mem_of_getElem? (i := 521) (by decide +kernel), List.mem_of_getElem? (i := 522) (by decide +kernel)⟩
theorem lw_p19 : lw_okq (⟨"OutOrder$Going", "isTwin", "(I)Z"⟩, 3) := ⟨⟨by decide +kernel, by decide +kernel⟩, List.mem_of_getElem? (i := 216) (by decide +kernel), List.mem_of_getElem? (i := 604) (by decide +kernel), List.mem_of_getElem? (i := 605) (by decide +kernel)⟩
theorem lw_p20 : lw_okq (⟨"OutOrder$Work", "takeNumbers", "(LOutOrder$Table;LOutOrder$Row;)V"⟩, 6) := ⟨⟨by decide +kernel, by decide +kernel⟩, List.mem_of_getElem? (i := 236) (by decide +kernel), List.mem_of_getElem? (i := 626) (by decide +kernel), List.mem_of_getElem? (i := 627) (by decide +kernel)⟩
theorem lw_p21 : lw_okq (⟨"OutOrder$Work", "hasRest", "(II)Z"⟩, 6) := ⟨⟨by decide +kernel, by decide +kernel⟩, List.mem_of_getElem? (i := 236) (by decide +kernel), List.mem_of_getElem? (i := 639) (by decide +kernel), List.mem_of_getElem? (i := 640) (by decide +kernel)⟩
theorem lw_p22 : lw_okq (⟨"OutOrder$Work", "eliminate", "(IILOutOrder$Modulus;)V"⟩, 6) := ⟨⟨by decide +kernel, by decide +kernel⟩, List.mem_of_getElem? (i := 236) (by decide +kernel), List.mem_of_getElem? (i := 643) (by decide +kernel), List.mem_of_getElem? (i := 644) (by decide +kernel)⟩
theorem lw_p23 : lw_okq (⟨"OutOrderModel", "refuse", "(I)I"⟩, 24) := ⟨⟨by decide +kernel, by decide +kernel⟩, List.mem_of_getElem? (i := 724) (by decide +kernel), List.mem_of_getElem? (i := 808) (by decide +kernel), List.mem_of_getElem? (i := 809) (by decide +kernel)⟩
theorem lw_p24 : lw_okq (⟨"OutOrderModel", "notWorked", "()V"⟩, 24) := ⟨⟨by decide +kernel, by decide +kernel⟩, List.mem_of_getElem? (i := 724) (by decide +kernel), List.mem_of_getElem? (i := 812) (by decide +kernel), List.mem_of_getElem? (i := 813) (by decide +kernel)⟩
theorem lw_p25 : lw_okq (⟨"OutOrderModel", "beginNet", "()V"⟩, 24) := ⟨⟨by decide +kernel, by decide +kernel⟩, List.mem_of_getElem? (i := 724) (by decide +kernel), List.mem_of_getElem? (i := 820) (by decide +kernel), List.mem_of_getElem? (i := 821) (by decide +kernel)⟩
theorem lw_p26 : lw_okq (⟨"OutOrderModel", "isUnknown", "(I)Z"⟩, 24) := ⟨⟨by decide +kernel, by decide +kernel⟩, List.mem_of_getElem? (i := 724) (by decide +kernel), List.mem_of_getElem? (i := 828) (by decide +kernel), List.mem_of_getElem? (i := 829) (by decide +kernel)⟩
theorem lw_p27 : lw_okq (⟨"OutOrderModel", "modulo", "(J)I"⟩, 24) := ⟨⟨by decide +kernel, by decide +kernel⟩, List.mem_of_getElem? (i := 724) (by decide +kernel), List.mem_of_getElem? (i := 835) (by decide +kernel), List.mem_of_getElem? (i := 836) (by decide +kernel)⟩
theorem lw_p28 : lw_okq (⟨"OutOrderModel", "someHeld", "()Z"⟩, 24) := ⟨⟨by decide +kernel, by decide +kernel⟩, List.mem_of_getElem? (i := 724) (by decide +kernel), List.mem_of_getElem? (i := 851) (by decide +kernel), List.mem_of_getElem? (i := 852) (by decide +kernel)⟩
theorem lw_p29 : lw_okq (⟨"OutOrderModel", "byNumbers", "()V"⟩, 24) := ⟨⟨by decide +kernel, by decide +kernel⟩, List.mem_of_getElem? (i := 724) (by decide +kernel), List.mem_of_getElem? (i := 855) (by decide +kernel), List.mem_of_getElem? (i := 856) (by decide +kernel)⟩
theorem lw_p30 : lw_okq (⟨"OutOrderModel", "byFewest", "(Z)V"⟩, 24) := ⟨⟨by decide +kernel, by decide +kernel⟩, List.mem_of_getElem? (i := 724) (by decide +kernel), List.mem_of_getElem? (i := 859) (by decide +kernel), List.mem_of_getElem? (i := 860) (by decide +kernel)⟩
theorem lw_p31 : lw_okq (⟨"OutOrderModel", "bySearch", "()V"⟩, 24) := ⟨⟨by decide +kernel, by decide +kernel⟩, List.mem_of_getElem? (i := 724) (by decide +kernel), List.mem_of_getElem? (i := 872) (by decide +kernel), List.mem_of_getElem? (i := 873) (by decide +kernel)⟩
def lw_privs_2 : List (MethodName × Nat) := [(⟨"OutOrder$FullNet", "makeGroups", "(I)V"⟩, 10), (⟨"OutOrder$FullNet", "isWithinAnother", "(II)Z"⟩, 10), (⟨"OutOrder$FullNet", "insertGroup", "(I)V"⟩, 10), (⟨"OutOrder$Going", "isTwin", "(I)Z"⟩, 3), (⟨"OutOrder$Work", "takeNumbers", "(LOutOrder$Table;LOutOrder$Row;)V"⟩, 6), (⟨"OutOrder$Work", "hasRest", "(II)Z"⟩, 6), (⟨"OutOrder$Work", "eliminate", "(IILOutOrder$Modulus;)V"⟩, 6), (⟨"OutOrderModel", "refuse", "(I)I"⟩, 24), (⟨"OutOrderModel", "notWorked", "()V"⟩, 24), (⟨"OutOrderModel", "beginNet", "()V"⟩, 24), (⟨"OutOrderModel", "isUnknown", "(I)Z"⟩, 24), (⟨"OutOrderModel", "modulo", "(J)I"⟩, 24), (⟨"OutOrderModel", "someHeld", "()Z"⟩, 24), (⟨"OutOrderModel", "byNumbers", "()V"⟩, 24), (⟨"OutOrderModel", "byFewest", "(Z)V"⟩, 24), (⟨"OutOrderModel", "bySearch", "()V"⟩, 24)]
theorem lw_r2 : ∀ q ∈ lw_privs_2, lw_okq q := List.forall_mem_cons.mpr ⟨lw_p16, List.forall_mem_cons.mpr ⟨lw_p17, List.forall_mem_cons.mpr ⟨lw_p18, List.forall_mem_cons.mpr ⟨lw_p19, List.forall_mem_cons.mpr ⟨lw_p20, List.forall_mem_cons.mpr ⟨lw_p21, List.forall_mem_cons.mpr ⟨lw_p22, List.forall_mem_cons.mpr ⟨lw_p23, List.forall_mem_cons.mpr ⟨lw_p24, List.forall_mem_cons.mpr ⟨lw_p25, List.forall_mem_cons.mpr ⟨lw_p26, List.forall_mem_cons.mpr ⟨lw_p27, List.forall_mem_cons.mpr ⟨lw_p28, List.forall_mem_cons.mpr ⟨lw_p29, List.forall_mem_cons.mpr ⟨lw_p30, List.forall_mem_cons.mpr ⟨lw_p31, fun _ h => absurd h List.not_mem_nil⟩⟩⟩⟩⟩⟩⟩⟩⟩⟩⟩⟩⟩⟩⟩⟩
theorem lw_p32 : lw_okq (⟨"OutOrderModel", "byLeast", "(Z)V"⟩, 24) := ⟨⟨by decide +kernel, by decide +kernel⟩, List.mem_of_getElem? (i := 724) (by decide +kernel), List.mem_of_getElem? (i := 876) (by decide +kernel), List.mem_of_getElem? (i := 877) (by decide +kernel)⟩
theorem lw_p33 : lw_okq (⟨"OutOrderModel", "findLeast", "(Z)V"⟩, 24) := ⟨⟨by decide +kernel, by decide +kernel⟩, List.mem_of_getElem? (i := 724) (by decide +kernel), List.mem_of_getElem? (i := 880) (by decide +kernel), List.mem_of_getElem? (i := 881) (by decide +kernel)⟩
theorem lw_p34 : lw_okq (⟨"OutOrderModel", "costOf", "(IIZ)I"⟩, 24) := ⟨⟨by decide +kernel, by decide +kernel⟩, List.mem_of_getElem? (i := 724) (by decide +kernel), List.mem_of_getElem? (i := 884) (by decide +kernel), List.mem_of_getElem? (i := 885) (by decide +kernel)⟩
theorem lw_p35 : lw_okq (⟨"OutOrderModel", "around", "(II)I"⟩, 24) := ⟨⟨by decide +kernel, by decide +kernel⟩, List.mem_of_getElem? (i := 724) (by decide +kernel), List.mem_of_getElem? (i := 888) (by decide +kernel), List.mem_of_getElem? (i := 889) (by decide +kernel)⟩
theorem lw_p36 : lw_okq (⟨"OutOrderModel", "joined", "(IIZ)I"⟩, 24) := ⟨⟨by decide +kernel, by decide +kernel⟩, List.mem_of_getElem? (i := 724) (by decide +kernel), List.mem_of_getElem? (i := 892) (by decide +kernel), List.mem_of_getElem? (i := 893) (by decide +kernel)⟩
theorem lw_p37 : lw_okq (⟨"OutOrderModel", "goThrough", "()V"⟩, 24) := ⟨⟨by decide +kernel, by decide +kernel⟩, List.mem_of_getElem? (i := 724) (by decide +kernel), List.mem_of_getElem? (i := 900) (by decide +kernel), List.mem_of_getElem? (i := 901) (by decide +kernel)⟩
theorem lw_p38 : lw_okq (⟨"OutOrderModel", "parent", "(I)I"⟩, 24) := ⟨⟨by decide +kernel, by decide +kernel⟩, List.mem_of_getElem? (i := 724) (by decide +kernel), List.mem_of_getElem? (i := 921) (by decide +kernel), List.mem_of_getElem? (i := 922) (by decide +kernel)⟩
theorem lw_p39 : lw_okq (⟨"OutOrderModel", "height", "(I)I"⟩, 24) := ⟨⟨by decide +kernel, by decide +kernel⟩, List.mem_of_getElem? (i := 724) (by decide +kernel), List.mem_of_getElem? (i := 925) (by decide +kernel), List.mem_of_getElem? (i := 926) (by decide +kernel)⟩
theorem lw_p40 : lw_okq (⟨"OutOrderModel", "steps", "(III)I"⟩, 24) := ⟨⟨by decide +kernel, by decide +kernel⟩, List.mem_of_getElem? (i := 724) (by decide +kernel), List.mem_of_getElem? (i := 945) (by decide +kernel), List.mem_of_getElem? (i := 946) (by decide +kernel)⟩
theorem lw_p41 : lw_okq (⟨"OutOrderModel", "goingLacks", "(I)I"⟩, 24) := ⟨⟨by decide +kernel, by decide +kernel⟩, List.mem_of_getElem? (i := 724) (by decide +kernel), List.mem_of_getElem? (i := 958) (by decide +kernel), List.mem_of_getElem? (i := 959) (by decide +kernel)⟩
theorem lw_p42 : lw_okq (⟨"OutOrderModel", "goneBits", "()I"⟩, 24) := ⟨⟨by decide +kernel, by decide +kernel⟩, List.mem_of_getElem? (i := 724) (by decide +kernel), List.mem_of_getElem? (i := 962) (by decide +kernel), List.mem_of_getElem? (i := 963) (by decide +kernel)⟩
theorem lw_p43 : lw_okq (⟨"OutOrderModel", "goingAround", "(I)I"⟩, 24) := ⟨⟨by decide +kernel, by decide +kernel⟩, List.mem_of_getElem? (i := 724) (by decide +kernel), List.mem_of_getElem? (i := 966) (by decide +kernel), List.mem_of_getElem? (i := 967) (by decide +kernel)⟩
theorem lw_p44 : lw_okq (⟨"OutOrderModel", "kindOf", "(I)I"⟩, 24) := ⟨⟨by decide +kernel, by decide +kernel⟩, List.mem_of_getElem? (i := 724) (by decide +kernel), List.mem_of_getElem? (i := 974) (by decide +kernel), List.mem_of_getElem? (i := 975) (by decide +kernel)⟩
theorem lw_p45 : lw_okq (⟨"OutOrderModel", "rest", "(III)I"⟩, 24) := ⟨⟨by decide +kernel, by decide +kernel⟩, List.mem_of_getElem? (i := 724) (by decide +kernel), List.mem_of_getElem? (i := 986) (by decide +kernel), List.mem_of_getElem? (i := 987) (by decide +kernel)⟩
theorem lw_p46 : lw_okq (⟨"OutOrderModel", "inverse", "(I)I"⟩, 24) := ⟨⟨by decide +kernel, by decide +kernel⟩, List.mem_of_getElem? (i := 724) (by decide +kernel), List.mem_of_getElem? (i := 990) (by decide +kernel), List.mem_of_getElem? (i := 991) (by decide +kernel)⟩
theorem lw_p47 : lw_okq (⟨"OutOrderModel", "placeOf", "(I)I"⟩, 24) := ⟨⟨by decide +kernel, by decide +kernel⟩, List.mem_of_getElem? (i := 724) (by decide +kernel), List.mem_of_getElem? (i := 998) (by decide +kernel), List.mem_of_getElem? (i := 999) (by decide +kernel)⟩
def lw_privs_3 : List (MethodName × Nat) := [(⟨"OutOrderModel", "byLeast", "(Z)V"⟩, 24), (⟨"OutOrderModel", "findLeast", "(Z)V"⟩, 24), (⟨"OutOrderModel", "costOf", "(IIZ)I"⟩, 24), (⟨"OutOrderModel", "around", "(II)I"⟩, 24), (⟨"OutOrderModel", "joined", "(IIZ)I"⟩, 24), (⟨"OutOrderModel", "goThrough", "()V"⟩, 24), (⟨"OutOrderModel", "parent", "(I)I"⟩, 24), (⟨"OutOrderModel", "height", "(I)I"⟩, 24), (⟨"OutOrderModel", "steps", "(III)I"⟩, 24), (⟨"OutOrderModel", "goingLacks", "(I)I"⟩, 24), (⟨"OutOrderModel", "goneBits", "()I"⟩, 24), (⟨"OutOrderModel", "goingAround", "(I)I"⟩, 24), (⟨"OutOrderModel", "kindOf", "(I)I"⟩, 24), (⟨"OutOrderModel", "rest", "(III)I"⟩, 24), (⟨"OutOrderModel", "inverse", "(I)I"⟩, 24), (⟨"OutOrderModel", "placeOf", "(I)I"⟩, 24)]
theorem lw_r3 : ∀ q ∈ lw_privs_3, lw_okq q := List.forall_mem_cons.mpr ⟨lw_p32, List.forall_mem_cons.mpr ⟨lw_p33, List.forall_mem_cons.mpr ⟨lw_p34, List.forall_mem_cons.mpr ⟨lw_p35, List.forall_mem_cons.mpr ⟨lw_p36, List.forall_mem_cons.mpr ⟨lw_p37, List.forall_mem_cons.mpr ⟨lw_p38, List.forall_mem_cons.mpr ⟨lw_p39, List.forall_mem_cons.mpr ⟨lw_p40, List.forall_mem_cons.mpr ⟨lw_p41, List.forall_mem_cons.mpr ⟨lw_p42, List.forall_mem_cons.mpr ⟨lw_p43, List.forall_mem_cons.mpr ⟨lw_p44, List.forall_mem_cons.mpr ⟨lw_p45, List.forall_mem_cons.mpr ⟨lw_p46, List.forall_mem_cons.mpr ⟨lw_p47, fun _ h => absurd h List.not_mem_nil⟩⟩⟩⟩⟩⟩⟩⟩⟩⟩⟩⟩⟩⟩⟩⟩
theorem lw_p48 : lw_okq (⟨"OutOrderModel", "isSolved", "()Z"⟩, 24) := ⟨⟨by decide +kernel, by decide +kernel⟩, List.mem_of_getElem? (i := 724) (by decide +kernel), List.mem_of_getElem? (i := 1018) (by decide +kernel), List.mem_of_getElem? (i := 1019) (by decide +kernel)⟩
theorem lw_p49 : lw_okq (⟨"OutOrderModel", "solveAll", "()V"⟩, 24) := ⟨⟨by decide +kernel, by decide +kernel⟩, List.mem_of_getElem? (i := 724) (by decide +kernel), List.mem_of_getElem? (i := 1022) (by decide +kernel), List.mem_of_getElem? (i := 1023) (by decide +kernel)⟩
theorem lw_p50 : lw_okq (⟨"OutOrderModel", "planFor", "(I)I"⟩, 24) := ⟨⟨by decide +kernel, by decide +kernel⟩, List.mem_of_getElem? (i := 724) (by decide +kernel), List.mem_of_getElem? (i := 1034) (by decide +kernel), List.mem_of_getElem? (i := 1035) (by decide +kernel)⟩
theorem lw_p51 : lw_okq (⟨"OutOrderModel", "mayBeDone", "(II)Z"⟩, 24) := ⟨⟨by decide +kernel, by decide +kernel⟩, List.mem_of_getElem? (i := 724) (by decide +kernel), List.mem_of_getElem? (i := 1038) (by decide +kernel), List.mem_of_getElem? (i := 1039) (by decide +kernel)⟩
def lw_privs_4 : List (MethodName × Nat) := [(⟨"OutOrderModel", "isSolved", "()Z"⟩, 24), (⟨"OutOrderModel", "solveAll", "()V"⟩, 24), (⟨"OutOrderModel", "planFor", "(I)I"⟩, 24), (⟨"OutOrderModel", "mayBeDone", "(II)Z"⟩, 24)]
theorem lw_r4 : ∀ q ∈ lw_privs_4, lw_okq q := List.forall_mem_cons.mpr ⟨lw_p48, List.forall_mem_cons.mpr ⟨lw_p49, List.forall_mem_cons.mpr ⟨lw_p50, List.forall_mem_cons.mpr ⟨lw_p51, fun _ h => absurd h List.not_mem_nil⟩⟩⟩⟩
def lw_privs : List (MethodName × Nat) := lw_privs_1 ++ (lw_privs_2 ++ (lw_privs_3 ++ (lw_privs_4)))
def lw_tbl : List Cond := k2_sels lw_privs ++ tables_1
theorem lw_privs_ok : ∀ q ∈ lw_privs, lw_okq q := by
  show ∀ q ∈ lw_privs_1 ++ (lw_privs_2 ++ (lw_privs_3 ++ (lw_privs_4))), lw_okq q
  exact List.forall_mem_append.mpr ⟨lw_r1, List.forall_mem_append.mpr ⟨lw_r2, List.forall_mem_append.mpr ⟨lw_r3, lw_r4⟩⟩⟩
end
section
def jT_FN : u_T := fun k => match k with
  | 0 => ("OutOrder$FullNet", "net", "LOutOrder$Net;", true)
  | 1 => ("OutOrder$FullNet", "pairs", "[I", true)
  | 2 => ("OutOrder$FullNet", "behind", "[I", true)
  | 3 => ("OutOrder$FullNet", "parents", "[I", true)
  | 4 => ("OutOrder$FullNet", "heights", "[I", true)
  | 5 => ("OutOrder$FullNet", "children", "[I", true)
  | 6 => ("OutOrder$FullNet", "groups", "[I", true)
  | 7 => ("OutOrder$FullNet", "fillCount", "I", false)
  | 8 => ("OutOrder$FullNet", "groupCount", "I", false)
  | _ => ("OutOrder$FullNet", "widest", "I", false)
def jt_FN : Nat → FieldType := fun k => match k with
  | 0 => .object "OutOrder$Net"
  | 1 => .array .int
  | 2 => .array .int
  | 3 => .array .int
  | 4 => .array .int
  | 5 => .array .int
  | 6 => .array .int
  | 7 => .int
  | 8 => .int
  | _ => .int
def jT_GO : u_T := fun k => match k with
  | 0 => ("OutOrder$Going", "net", "LOutOrder$Net;", true)
  | 1 => ("OutOrder$Going", "gone", "[I", true)
  | _ => ("OutOrder$Going", "count", "I", false)
def jt_GO : Nat → FieldType := fun k => match k with
  | 0 => .object "OutOrder$Net"
  | 1 => .array .int
  | _ => .int
def jT_LE : u_T := fun k => match k with
  | 0 => ("OutOrder$Least", "sums", "[I", true)
  | 1 => ("OutOrder$Least", "widths", "[I", true)
  | 2 => ("OutOrder$Least", "nets", "[[I", true)
  | _ => ("OutOrder$Least", "net", "LOutOrder$Net;", true)
def jt_LE : Nat → FieldType := fun k => match k with
  | 0 => .array .int
  | 1 => .array .int
  | 2 => .array (.array .int)
  | _ => .object "OutOrder$Net"
def jT_MO : u_T := fun k => match k with
  | _ => ("OutOrder$Modulus", "p", "I", false)
def jt_MO : Nat → FieldType := fun k => match k with
  | _ => .int
def jT_NE : u_T := fun k => match k with
  | 0 => ("OutOrder$Net", "near", "[I", true)
  | 1 => ("OutOrder$Net", "left", "I", false)
  | _ => ("OutOrder$Net", "n", "I", false)
def jt_NE : Nat → FieldType := fun k => match k with
  | 0 => .array .int
  | 1 => .int
  | _ => .int
def jT_PL : u_T := fun k => match k with
  | _ => ("OutOrder$Plan", "rounds", "[I", true)
def jt_PL : Nat → FieldType := fun k => match k with
  | _ => .array .int
def jT_RO : u_T := fun k => match k with
  | 0 => ("OutOrder$Row", "unknowns", "[I", true)
  | 1 => ("OutOrder$Row", "places", "[I", true)
  | _ => ("OutOrder$Row", "n", "I", false)
def jt_RO : Nat → FieldType := fun k => match k with
  | 0 => .array .int
  | 1 => .array .int
  | _ => .int
def jT_RU : u_T := fun k => match k with
  | _ => ("OutOrder$Rules", "net", "LOutOrder$Net;", true)
def jt_RU : Nat → FieldType := fun k => match k with
  | _ => .object "OutOrder$Net"
def jT_TA : u_T := fun k => match k with
  | 0 => ("OutOrder$Table", "modulus", "LOutOrder$Modulus;", true)
  | 1 => ("OutOrder$Table", "values", "[[I", true)
  | 2 => ("OutOrder$Table", "joins", "[I", true)
  | 3 => ("OutOrder$Table", "sides", "[I", true)
  | 4 => ("OutOrder$Table", "n", "I", false)
  | _ => ("OutOrder$Table", "held", "I", false)
def jt_TA : Nat → FieldType := fun k => match k with
  | 0 => .object "OutOrder$Modulus"
  | 1 => .array (.array .int)
  | 2 => .array .int
  | 3 => .array .int
  | 4 => .int
  | _ => .int
def jT_WO : u_T := fun k => match k with
  | 0 => ("OutOrder$Work", "ones", "[[I", true)
  | 1 => ("OutOrder$Work", "pivots", "[I", true)
  | 2 => ("OutOrder$Work", "inverses", "[I", true)
  | 3 => ("OutOrder$Work", "answers", "[I", true)
  | 4 => ("OutOrder$Work", "worked", "I", false)
  | _ => ("OutOrder$Work", "stuckPlace", "I", false)
def jt_WO : Nat → FieldType := fun k => match k with
  | 0 => .array (.array .int)
  | 1 => .array .int
  | 2 => .array .int
  | 3 => .array .int
  | 4 => .int
  | _ => .int
def jT_OO : u_T := fun k => match k with
  | 0 => ("OutOrder", "numbers", "LOutOrder$Table;", true)
  | 1 => ("OutOrder", "row", "LOutOrder$Row;", true)
  | 2 => ("OutOrder", "rules", "LOutOrder$Rules;", true)
  | 3 => ("OutOrder", "minima", "LOutOrder$Least;", true)
  | 4 => ("OutOrder", "full", "LOutOrder$FullNet;", true)
  | 5 => ("OutOrder", "state", "LOutOrder$Going;", true)
  | 6 => ("OutOrder", "factors", "LOutOrder$Work;", true)
  | 7 => ("OutOrder", "shares", "LOutOrder$Plan;", true)
  | 8 => ("OutOrder", "refusals", "[I", true)
  | 9 => ("OutOrder", "fullKnown", "Z", false)
  | _ => ("OutOrder", "minimaKnown", "Z", false)
def jt_OO : Nat → FieldType := fun k => match k with
  | 0 => .object "OutOrder$Table"
  | 1 => .object "OutOrder$Row"
  | 2 => .object "OutOrder$Rules"
  | 3 => .object "OutOrder$Least"
  | 4 => .object "OutOrder$FullNet"
  | 5 => .object "OutOrder$Going"
  | 6 => .object "OutOrder$Work"
  | 7 => .object "OutOrder$Plan"
  | 8 => .array .int
  | 9 => .boolean
  | _ => .boolean
def jT_MD : u_T := fun k => match k with
  | 0 => ("OutOrderModel", "n", "I", false)
  | 1 => ("OutOrderModel", "p", "I", false)
  | 2 => ("OutOrderModel", "numbers", "[I", true)
  | 3 => ("OutOrderModel", "held", "[Z", true)
  | 4 => ("OutOrderModel", "order", "[I", true)
  | 5 => ("OutOrderModel", "sides", "[I", true)
  | 6 => ("OutOrderModel", "refused", "[I", true)
  | 7 => ("OutOrderModel", "net", "[I", true)
  | 8 => ("OutOrderModel", "behind", "[I", true)
  | 9 => ("OutOrderModel", "fillPairs", "[I", true)
  | 10 => ("OutOrderModel", "fillMany", "I", false)
  | 11 => ("OutOrderModel", "place", "[I", true)
  | 12 => ("OutOrderModel", "leastOf", "[I", true)
  | 13 => ("OutOrderModel", "known", "I", false)
  | 14 => ("OutOrderModel", "gone", "[I", true)
  | 15 => ("OutOrderModel", "goneMany", "I", false)
  | 16 => ("OutOrderModel", "goingNet", "[I", true)
  | 17 => ("OutOrderModel", "now", "[I", true)
  | 18 => ("OutOrderModel", "worked", "I", false)
  | 19 => ("OutOrderModel", "stuck", "I", false)
  | 20 => ("OutOrderModel", "pivots", "[I", true)
  | 21 => ("OutOrderModel", "ones", "[I", true)
  | 22 => ("OutOrderModel", "x", "[I", true)
  | _ => ("OutOrderModel", "rounds", "[I", true)
def jt_MD : Nat → FieldType := fun k => match k with
  | 0 => .int
  | 1 => .int
  | 2 => .array .int
  | 3 => .array .boolean
  | 4 => .array .int
  | 5 => .array .int
  | 6 => .array .int
  | 7 => .array .int
  | 8 => .array .int
  | 9 => .array .int
  | 10 => .int
  | 11 => .array .int
  | 12 => .array .int
  | 13 => .int
  | 14 => .array .int
  | 15 => .int
  | 16 => .array .int
  | 17 => .array .int
  | 18 => .int
  | 19 => .int
  | 20 => .array .int
  | 21 => .array .int
  | 22 => .array .int
  | _ => .array .int
/-- the classes whose objects the worlds hold -/
def jCl : List vw_C := [("OutOrder$FullNet", jT_FN, 10), ("OutOrder$Going", jT_GO, 3), ("OutOrder$Least", jT_LE, 4), ("OutOrder$Modulus", jT_MO, 1), ("OutOrder$Net", jT_NE, 3), ("OutOrder$Plan", jT_PL, 1), ("OutOrder$Row", jT_RO, 3), ("OutOrder$Rules", jT_RU, 1), ("OutOrder$Table", jT_TA, 6), ("OutOrder$Work", jT_WO, 6), ("OutOrder", jT_OO, 11), ("OutOrderModel", jT_MD, 24)]
/-- every word that a call may need: the tables' own and the private methods' -/
def jtbl : List Cond := lw_tbl.filter goodWord
theorem jtbl_in {w : Cond} (n : Nat) (h : tables_1[n]? = some w) (g : goodWord w = true) : w ∈ jtbl := List.mem_filter.mpr ⟨List.mem_append_right _ (List.mem_of_getElem? h), g⟩
theorem jtbl_sel {w : Cond} (n : Nat) (h : (k2_sels lw_privs)[n]? = some w) (g : goodWord w = true) : w ∈ jtbl := List.mem_filter.mpr ⟨List.mem_append_left _ (List.mem_of_getElem? h), g⟩
def jnst : List Cond := [Cond.fieldLinkNest "OutOrder$Table" 34 "OutOrder$Modulus" "p" "I" "OutOrder", Cond.fieldLinkNest "OutOrder" 261 "OutOrder$Modulus" "p" "I" "OutOrder", Cond.fieldLinkNest "OutOrder$Work" 45 "OutOrder$Table" "modulus" "LOutOrder$Modulus;" "OutOrder", Cond.fieldLinkNest "OutOrder" 233 "OutOrder$Table" "modulus" "LOutOrder$Modulus;" "OutOrder", Cond.fieldLinkNest "OutOrder" 86 "OutOrder$Table" "values" "[[I" "OutOrder", Cond.fieldLinkNest "OutOrder$Work" 63 "OutOrder$Table" "values" "[[I" "OutOrder", Cond.fieldLinkNest "OutOrder$Least" 36 "OutOrder$Table" "joins" "[I" "OutOrder", Cond.fieldLinkNest "OutOrder$Net" 25 "OutOrder$Table" "joins" "[I" "OutOrder", Cond.fieldLinkNest "OutOrder$Rules" 69 "OutOrder$Table" "joins" "[I" "OutOrder", Cond.fieldLinkNest "OutOrder" 159 "OutOrder$Table" "joins" "[I" "OutOrder", Cond.fieldLinkNest "OutOrder$Work" 78 "OutOrder$Table" "sides" "[I" "OutOrder", Cond.fieldLinkNest "OutOrder" 230 "OutOrder$Table" "sides" "[I" "OutOrder", Cond.fieldLinkNest "OutOrder$Least" 30 "OutOrder$Table" "n" "I" "OutOrder", Cond.fieldLinkNest "OutOrder$Net" 19 "OutOrder$Table" "n" "I" "OutOrder", Cond.fieldLinkNest "OutOrder$Rules" 22 "OutOrder$Table" "n" "I" "OutOrder", Cond.fieldLinkNest "OutOrder$Work" 40 "OutOrder$Table" "n" "I" "OutOrder", Cond.fieldLinkNest "OutOrder" 104 "OutOrder$Table" "n" "I" "OutOrder", Cond.fieldLinkNest "OutOrder$Rules" 31 "OutOrder$Table" "held" "I" "OutOrder", Cond.fieldLinkNest "OutOrder" 100 "OutOrder$Table" "held" "I" "OutOrder", Cond.fieldLinkNest "OutOrder$FullNet" 53 "OutOrder$Row" "unknowns" "[I" "OutOrder", Cond.fieldLinkNest "OutOrder$Plan" 34 "OutOrder$Row" "unknowns" "[I" "OutOrder", Cond.fieldLinkNest "OutOrder$Work" 66 "OutOrder$Row" "unknowns" "[I" "OutOrder", Cond.fieldLinkNest "OutOrder" 124 "OutOrder$Row" "unknowns" "[I" "OutOrder", Cond.fieldLinkNest "OutOrder" 130 "OutOrder$Row" "places" "[I" "OutOrder", Cond.fieldLinkNest "OutOrder$Plan" 15 "OutOrder$Row" "n" "I" "OutOrder", Cond.fieldLinkNest "OutOrder$FullNet" 48 "OutOrder$Row" "n" "I" "OutOrder", Cond.fieldLinkNest "OutOrder$FullNet" 56 "OutOrder$Net" "near" "[I" "OutOrder", Cond.fieldLinkNest "OutOrder$Rules" 52 "OutOrder$Net" "near" "[I" "OutOrder", Cond.fieldLinkNest "OutOrder$Going" 37 "OutOrder$Net" "near" "[I" "OutOrder", Cond.fieldLinkNest "OutOrder$Least" 98 "OutOrder$Net" "near" "[I" "OutOrder", Cond.fieldLinkNest "OutOrder" 204 "OutOrder$Net" "near" "[I" "OutOrder", Cond.fieldLinkNest "OutOrder$Rules" 28 "OutOrder$Net" "left" "I" "OutOrder", Cond.fieldLinkNest "OutOrder$Going" 34 "OutOrder$Net" "left" "I" "OutOrder", Cond.fieldLinkNest "OutOrder$FullNet" 85 "OutOrder$Net" "n" "I" "OutOrder", Cond.fieldLinkNest "OutOrder$Rules" 48 "OutOrder$Net" "n" "I" "OutOrder", Cond.fieldLinkNest "OutOrder$Least" 89 "OutOrder$Net" "n" "I" "OutOrder", Cond.fieldLinkNest "OutOrder" 172 "OutOrder$Least" "sums" "[I" "OutOrder", Cond.fieldLinkNest "OutOrder" 178 "OutOrder$Least" "widths" "[I" "OutOrder", Cond.fieldLinkNest "OutOrder" 127 "OutOrder$FullNet" "pairs" "[I" "OutOrder", Cond.fieldLinkNest "OutOrder" 133 "OutOrder$FullNet" "behind" "[I" "OutOrder", Cond.fieldLinkNest "OutOrder" 141 "OutOrder$FullNet" "parents" "[I" "OutOrder", Cond.fieldLinkNest "OutOrder$Plan" 37 "OutOrder$FullNet" "heights" "[I" "OutOrder", Cond.fieldLinkNest "OutOrder" 144 "OutOrder$FullNet" "heights" "[I" "OutOrder", Cond.fieldLinkNest "OutOrder$Plan" 29 "OutOrder$FullNet" "children" "[I" "OutOrder", Cond.fieldLinkNest "OutOrder" 147 "OutOrder$FullNet" "children" "[I" "OutOrder", Cond.fieldLinkNest "OutOrder" 156 "OutOrder$FullNet" "groups" "[I" "OutOrder", Cond.fieldLinkNest "OutOrder" 118 "OutOrder$FullNet" "fillCount" "I" "OutOrder", Cond.fieldLinkNest "OutOrder" 153 "OutOrder$FullNet" "groupCount" "I" "OutOrder", Cond.fieldLinkNest "OutOrder" 150 "OutOrder$FullNet" "widest" "I" "OutOrder", Cond.fieldLinkNest "OutOrder" 185 "OutOrder$Going" "net" "LOutOrder$Net;" "OutOrder", Cond.fieldLinkNest "OutOrder" 264 "OutOrder$Going" "count" "I" "OutOrder", Cond.fieldLinkNest "OutOrder" 221 "OutOrder$Work" "pivots" "[I" "OutOrder", Cond.fieldLinkNest "OutOrder" 249 "OutOrder$Work" "answers" "[I" "OutOrder", Cond.fieldLinkNest "OutOrder" 215 "OutOrder$Work" "worked" "I" "OutOrder", Cond.fieldLinkNest "OutOrder" 218 "OutOrder$Work" "stuckPlace" "I" "OutOrder", Cond.fieldLinkNest "OutOrder" 258 "OutOrder$Plan" "rounds" "[I" "OutOrder"]
def jnq : Cond → Bool
  | .fieldLinkNest _ _ _ _ _ _ => true
  | _ => false
theorem jnst_ok : jnst.all jnq = true := by decide +kernel
theorem jnst_in : ∀ w ∈ jnst, w ∈ lw_tbl := by
  have h : jnst.all (fun w => decide (w ∈ tables_1)) = true := by decide +kernel
  intro w hw
  exact List.mem_append_right _ (of_decide_eq_true (List.all_eq_true.mp h w hw))
def jkL : List Nat := [10, 8, 3, 1002, 1000, 1000, 1000, 1000, 1000, 1000, 1000, 1000, 1000, 1000, 1000, 1000, 1000, 1000, 1000, 1000, 1000, 1000, 1000, 1000, 1000, 1000, 1000, 1000, 1000, 1000, 6, 1000, 1000, 7, 4, 1000, 2, 1000, 1000, 1002, 1000, 1000, 1000, 1000, 1000, 1000, 1000, 1000, 1000, 1000, 1000, 1000, 1000, 4, 1000, 0, 4, 1000, 1000, 1000, 1000, 1000, 1000, 1000, 1, 4, 1000, 1000, 9, 1002, 1000, 1000, 1000, 1000, 1000, 1000, 1000, 1000, 1000, 1000, 1000, 1000, 1000, 1000, 1000, 1000, 1000, 1000, 1000, 1000, 1000, 1000, 1000, 1000, 1000, 1000, 1000, 5, 1000, 1000, 11, 1000, 1001, 1000, 1000, 1000, 1000, 1000, 1000, 1000, 1000, 1000, 1000, 1000, 1000, 1000, 1000, 1000]
def jlL : List Nat := [0, 0, 0, 24, 24, 24, 24, 24, 24, 24, 24, 24, 24, 24, 24, 24, 24, 24, 24, 24, 24, 24, 24, 24, 24, 24, 24, 24, 24, 24, 0, 24, 24, 0, 0, 24, 0, 4096, 4096, 13, 12, 12, 12, 12, 12, 12, 12, 12, 12, 12, 12, 12, 12, 0, 24, 0, 0, 24, 288, 24, 24, 24, 24, 24, 0, 0, 24, 24, 0, 24, 24, 24, 24, 24, 24, 24, 24, 24, 24, 24, 24, 24, 24, 24, 24, 24, 24, 24, 24, 24, 24, 24, 24, 24, 24, 24, 24, 0, 24, 7, 0, 576, 24, 24, 24, 7, 24, 24, 300, 24, 4096, 24, 600, 24, 24, 576, 24, 24]
def jwL : List Nat := [0, 0, 0, 4, 0, 0, 0, 0, 0, 0, 0, 0, 0, 0, 0, 0, 0, 0, 0, 0, 0, 0, 0, 0, 0, 0, 0, 0, 0, 0, 0, 0, 0, 0, 0, 0, 0, 0, 0, 40, 0, 0, 0, 0, 0, 0, 0, 0, 0, 0, 0, 0, 0, 0, 0, 0, 0, 0, 0, 0, 0, 0, 0, 0, 0, 0, 0, 0, 0, 70, 0, 0, 0, 0, 0, 0, 0, 0, 0, 0, 0, 0, 0, 0, 0, 0, 0, 0, 0, 0, 0, 0, 0, 0, 0, 0, 0, 0, 0, 0, 0, 0, 0, 0, 0, 0, 0, 0, 0, 0, 0, 0, 0, 0, 0, 0, 0, 0]
def jrL : List (List Nat) := [[1, 30, 33, 36, 55, 64, 68, 97, 99, 0, 0], [2, 3, 28, 29, 0, 0], [0], [], [], [], [], [], [], [], [], [], [], [], [], [], [], [], [], [], [], [], [], [], [], [], [], [], [], [], [31, 32, 0], [], [], [34], [35, 0, 0], [], [37, 38, 39, 53], [], [], [], [], [], [], [], [], [], [], [], [], [], [], [], [], [54, 0, 0], [], [56, 58, 59, 60, 61, 62, 63, 0, 0, 0], [57, 0, 0], [], [], [], [], [], [], [], [65, 67, 0], [66, 0, 0], [], [], [69, 94, 95, 96, 0, 0], [], [], [], [], [], [], [], [], [], [], [], [], [], [], [], [], [], [], [], [], [], [], [], [], [], [], [], [], [98], [], [], [0, 0, 101, 102, 103, 104, 105, 106, 107, 108, 0, 109, 110, 0, 111, 0, 112, 113, 0, 0, 114, 115, 116, 117], [], [], [], [], [], [], [], [], [], [], [], [], [], [], [], [], []]
def jnL : List Nat := [10, 3, 4, 1, 3, 1, 3, 1, 6, 6, 11, 24]
def jqL : List (List Bool) := [[true, true, true, true, true, true, true, false, false, false], [true, true, false], [true, true, true, true], [false], [true, false, false], [true], [true, true, false], [true], [true, true, true, true, false, false], [true, true, true, true, false, false], [true, true, true, true, true, true, true, true, true, false, false], [false, false, true, true, true, true, true, true, true, true, false, true, true, false, true, false, true, true, false, false, true, true, true, true]]
/-- the kind of a cell: a class's number, 1000 int[], 1001 boolean[], 1002 int[][] -/
def jk (i : Nat) : Nat := jkL.getD i 9999
def jl (i : Nat) : Nat := jlL.getD i 0
def jw (i j : Nat) : Nat := jwL.getD i 0 + j
def jr (i k : Nat) : Nat := (jrL.getD i []).getD k 0
def jn (c : Nat) : Nat := jnL.getD c 0
def jq (c k : Nat) : Bool := (jqL.getD c []).getD k false
def jLX : List Nat := List.range 100
def jLM : List Nat := (List.range 18).map (· + 100)
/-- what is known of a class of the list -/
def jcl (ci : Nat) (C : String) (F : u_T) (N : Nat) (ty : Nat → FieldType) : Prop := jCl[ci]? = some (C, F, N) ∧ N = jn ci ∧ ci ≠ 1000 ∧ ci ≠ 1001 ∧ ci ≠ 1002 ∧ (∀ w ∈ u_ws C F N, w ∈ jtbl) ∧ (∀ k, k < N → parseFieldDescriptor (F k).2.2.1 = some (ty k)) ∧ (∀ a, a < N → ∀ b, b < N → a ≠ b → (F a).2.1 ≠ (F b).2.1)
theorem jws_FN : ∀ w ∈ u_ws "OutOrder$FullNet" jT_FN 10, w ∈ jtbl := by
  have e : u_ws "OutOrder$FullNet" jT_FN 10 = ([194, 196, 198, 200, 202, 204, 206, 208, 210, 212] : List Nat).filterMap (fun i => tables_1[i]?) := by decide +kernel
  have g : (u_ws "OutOrder$FullNet" jT_FN 10).all goodWord = true := by decide +kernel
  intro w hw
  have h1 := List.all_eq_true.mp g w hw
  rw [e] at hw
  obtain ⟨i, -, hi⟩ := List.mem_filterMap.mp hw
  exact jtbl_in i hi h1
theorem jcl_FN : jcl 0 "OutOrder$FullNet" jT_FN 10 jt_FN := ⟨rfl, rfl, by decide, by decide, by decide, jws_FN, by decide +kernel, by decide +kernel⟩
theorem jws_GO : ∀ w ∈ u_ws "OutOrder$Going" jT_GO 3, w ∈ jtbl := by
  have e : u_ws "OutOrder$Going" jT_GO 3 = ([228, 230, 232] : List Nat).filterMap (fun i => tables_1[i]?) := by decide +kernel
  have g : (u_ws "OutOrder$Going" jT_GO 3).all goodWord = true := by decide +kernel
  intro w hw
  have h1 := List.all_eq_true.mp g w hw
  rw [e] at hw
  obtain ⟨i, -, hi⟩ := List.mem_filterMap.mp hw
  exact jtbl_in i hi h1
theorem jcl_GO : jcl 1 "OutOrder$Going" jT_GO 3 jt_GO := ⟨rfl, rfl, by decide, by decide, by decide, jws_GO, by decide +kernel, by decide +kernel⟩
theorem jws_LE : ∀ w ∈ u_ws "OutOrder$Least" jT_LE 4, w ∈ jtbl := by
  have e : u_ws "OutOrder$Least" jT_LE 4 = ([156, 158, 160, 162] : List Nat).filterMap (fun i => tables_1[i]?) := by decide +kernel
  have g : (u_ws "OutOrder$Least" jT_LE 4).all goodWord = true := by decide +kernel
  intro w hw
  have h1 := List.all_eq_true.mp g w hw
  rw [e] at hw
  obtain ⟨i, -, hi⟩ := List.mem_filterMap.mp hw
  exact jtbl_in i hi h1
theorem jcl_LE : jcl 2 "OutOrder$Least" jT_LE 4 jt_LE := ⟨rfl, rfl, by decide, by decide, by decide, jws_LE, by decide +kernel, by decide +kernel⟩
theorem jws_MO : ∀ w ∈ u_ws "OutOrder$Modulus" jT_MO 1, w ∈ jtbl := by
  have e : u_ws "OutOrder$Modulus" jT_MO 1 = ([40] : List Nat).filterMap (fun i => tables_1[i]?) := by decide +kernel
  have g : (u_ws "OutOrder$Modulus" jT_MO 1).all goodWord = true := by decide +kernel
  intro w hw
  have h1 := List.all_eq_true.mp g w hw
  rw [e] at hw
  obtain ⟨i, -, hi⟩ := List.mem_filterMap.mp hw
  exact jtbl_in i hi h1
theorem jcl_MO : jcl 3 "OutOrder$Modulus" jT_MO 1 jt_MO := ⟨rfl, rfl, by decide, by decide, by decide, jws_MO, by decide +kernel, by decide +kernel⟩
theorem jws_NE : ∀ w ∈ u_ws "OutOrder$Net" jT_NE 3, w ∈ jtbl := by
  have e : u_ws "OutOrder$Net" jT_NE 3 = ([130, 132, 134] : List Nat).filterMap (fun i => tables_1[i]?) := by decide +kernel
  have g : (u_ws "OutOrder$Net" jT_NE 3).all goodWord = true := by decide +kernel
  intro w hw
  have h1 := List.all_eq_true.mp g w hw
  rw [e] at hw
  obtain ⟨i, -, hi⟩ := List.mem_filterMap.mp hw
  exact jtbl_in i hi h1
theorem jcl_NE : jcl 4 "OutOrder$Net" jT_NE 3 jt_NE := ⟨rfl, rfl, by decide, by decide, by decide, jws_NE, by decide +kernel, by decide +kernel⟩
theorem jws_PL : ∀ w ∈ u_ws "OutOrder$Plan" jT_PL 1, w ∈ jtbl := by
  have e : u_ws "OutOrder$Plan" jT_PL 1 = ([273] : List Nat).filterMap (fun i => tables_1[i]?) := by decide +kernel
  have g : (u_ws "OutOrder$Plan" jT_PL 1).all goodWord = true := by decide +kernel
  intro w hw
  have h1 := List.all_eq_true.mp g w hw
  rw [e] at hw
  obtain ⟨i, -, hi⟩ := List.mem_filterMap.mp hw
  exact jtbl_in i hi h1
theorem jcl_PL : jcl 5 "OutOrder$Plan" jT_PL 1 jt_PL := ⟨rfl, rfl, by decide, by decide, by decide, jws_PL, by decide +kernel, by decide +kernel⟩
theorem jws_RO : ∀ w ∈ u_ws "OutOrder$Row" jT_RO 3, w ∈ jtbl := by
  have e : u_ws "OutOrder$Row" jT_RO 3 = ([98, 100, 102] : List Nat).filterMap (fun i => tables_1[i]?) := by decide +kernel
  have g : (u_ws "OutOrder$Row" jT_RO 3).all goodWord = true := by decide +kernel
  intro w hw
  have h1 := List.all_eq_true.mp g w hw
  rw [e] at hw
  obtain ⟨i, -, hi⟩ := List.mem_filterMap.mp hw
  exact jtbl_in i hi h1
theorem jcl_RO : jcl 6 "OutOrder$Row" jT_RO 3 jt_RO := ⟨rfl, rfl, by decide, by decide, by decide, jws_RO, by decide +kernel, by decide +kernel⟩
theorem jws_RU : ∀ w ∈ u_ws "OutOrder$Rules" jT_RU 1, w ∈ jtbl := by
  have e : u_ws "OutOrder$Rules" jT_RU 1 = ([138] : List Nat).filterMap (fun i => tables_1[i]?) := by decide +kernel
  have g : (u_ws "OutOrder$Rules" jT_RU 1).all goodWord = true := by decide +kernel
  intro w hw
  have h1 := List.all_eq_true.mp g w hw
  rw [e] at hw
  obtain ⟨i, -, hi⟩ := List.mem_filterMap.mp hw
  exact jtbl_in i hi h1
theorem jcl_RU : jcl 7 "OutOrder$Rules" jT_RU 1 jt_RU := ⟨rfl, rfl, by decide, by decide, by decide, jws_RU, by decide +kernel, by decide +kernel⟩
theorem jws_TA : ∀ w ∈ u_ws "OutOrder$Table" jT_TA 6, w ∈ jtbl := by
  have e : u_ws "OutOrder$Table" jT_TA 6 = ([68, 70, 72, 74, 76, 78] : List Nat).filterMap (fun i => tables_1[i]?) := by decide +kernel
  have g : (u_ws "OutOrder$Table" jT_TA 6).all goodWord = true := by decide +kernel
  intro w hw
  have h1 := List.all_eq_true.mp g w hw
  rw [e] at hw
  obtain ⟨i, -, hi⟩ := List.mem_filterMap.mp hw
  exact jtbl_in i hi h1
theorem jcl_TA : jcl 8 "OutOrder$Table" jT_TA 6 jt_TA := ⟨rfl, rfl, by decide, by decide, by decide, jws_TA, by decide +kernel, by decide +kernel⟩
theorem jws_WO : ∀ w ∈ u_ws "OutOrder$Work" jT_WO 6, w ∈ jtbl := by
  have e : u_ws "OutOrder$Work" jT_WO 6 = ([252, 254, 256, 258, 260, 262] : List Nat).filterMap (fun i => tables_1[i]?) := by decide +kernel
  have g : (u_ws "OutOrder$Work" jT_WO 6).all goodWord = true := by decide +kernel
  intro w hw
  have h1 := List.all_eq_true.mp g w hw
  rw [e] at hw
  obtain ⟨i, -, hi⟩ := List.mem_filterMap.mp hw
  exact jtbl_in i hi h1
theorem jcl_WO : jcl 9 "OutOrder$Work" jT_WO 6 jt_WO := ⟨rfl, rfl, by decide, by decide, by decide, jws_WO, by decide +kernel, by decide +kernel⟩
theorem jws_OO : ∀ w ∈ u_ws "OutOrder" jT_OO 11, w ∈ jtbl := by
  have e : u_ws "OutOrder" jT_OO 11 = ([323, 325, 327, 329, 331, 333, 335, 337, 339, 341, 343] : List Nat).filterMap (fun i => tables_1[i]?) := by decide +kernel
  have g : (u_ws "OutOrder" jT_OO 11).all goodWord = true := by decide +kernel
  intro w hw
  have h1 := List.all_eq_true.mp g w hw
  rw [e] at hw
  obtain ⟨i, -, hi⟩ := List.mem_filterMap.mp hw
  exact jtbl_in i hi h1
theorem jcl_OO : jcl 10 "OutOrder" jT_OO 11 jt_OO := ⟨rfl, rfl, by decide, by decide, by decide, jws_OO, by decide +kernel, by decide +kernel⟩
theorem jws_MD : ∀ w ∈ u_ws "OutOrderModel" jT_MD 24, w ∈ jtbl := by
  have e : u_ws "OutOrderModel" jT_MD 24 = ([753, 755, 757, 759, 761, 763, 765, 767, 769, 771, 773, 775, 777, 779, 781, 783, 785, 787, 789, 791, 793, 795, 797, 799] : List Nat).filterMap (fun i => tables_1[i]?) := by decide +kernel
  have g : (u_ws "OutOrderModel" jT_MD 24).all goodWord = true := by decide +kernel
  intro w hw
  have h1 := List.all_eq_true.mp g w hw
  rw [e] at hw
  obtain ⟨i, -, hi⟩ := List.mem_filterMap.mp hw
  exact jtbl_in i hi h1
theorem jcl_MD : jcl 11 "OutOrderModel" jT_MD 24 jt_MD := ⟨rfl, rfl, by decide, by decide, by decide, jws_MD, by decide +kernel, by decide +kernel⟩
end
section
/-! ===== THE J LAYER: a method of this system over a memory of numbers alone. No call of the landed class makes a cell: every reference is known by the layout (jr, jw), so a state is: which int stands at place k of cell i ===== -/
abbrev jM : Type := Nat → Nat → Int32
/-- I, but v at place k of cell i -/
def jwr (I : jM) (i k : Nat) (v : Int32) : jM := fun a => if a = i then upd (I a) k v else I a
theorem jwr_same (I : jM) (i k : Nat) (v : Int32) : jwr I i k v i = upd (I i) k v := if_pos rfl
theorem jwr_ne {I : jM} {i k : Nat} {v : Int32} {a : Nat} (h : a ≠ i) : jwr I i k v a = I a := if_neg h
/-- I, but the row f in cell i -/
def jrow (I : jM) (i : Nat) (f : Nat → Int32) : jM := fun a => if a = i then f else I a
theorem jrow_same (I : jM) (i : Nat) (f : Nat → Int32) : jrow I i f i = f := if_pos rfl
theorem jrow_ne {I : jM} {i : Nat} {f : Nat → Int32} {a : Nat} (h : a ≠ i) : jrow I i f a = I a := if_neg h
/-- slots, array classes (int[], boolean[], int[][]), addresses, cells -/
abbrev jE : Type := va_G × (ClassId × ClassId × ClassId) × (Nat → Nat) × List Nat
def jfs (ad : Nat → Nat) (i : Nat) (I : jM) : List Value := (List.range (jn (jk i))).map (fun k => if jq (jk i) k = true then Value.ref (ad (jr i k)) else Value.int (I i k))
def jcell (g : ClassId × ClassId × ClassId) (ad : Nat → Nat) (i : Nat) (I : jM) : va_E :=
  if jk i = 1000 then .inl (g.1, jl i, .inl (I i))
  else if jk i = 1001 then .inl (g.2.1, jl i, .inl (I i))
  else if jk i = 1002 then .inl (g.2.2, jl i, .inr (.inr (.inr (.inr (fun j => if j < jl i then some (ad (jw i j)) else none)))))
  else .inr (jk i, jfs ad i I)
theorem jcell_congr {g : ClassId × ClassId × ClassId} {ad : Nat → Nat} {i : Nat} {I I' : jM} (h : I i = I' i) : jcell g ad i I = jcell g ad i I' := by
  unfold jcell jfs; rw [h]
def jworld (E : jE) (I : jM) : va_W := E.2.2.2.map (fun i => (E.2.2.1 i, jcell E.2.1 E.2.2.1 i I))
def jtys (E : jE) : List (ClassId × FieldType) := [(E.2.1.1, .int), (E.2.1.2.1, .boolean), (E.2.1.2.2, .array .int)]
def jA (E : jE) : Nat → Prop := fun q => ∃ i, i ∈ E.2.2.2 ∧ E.2.2.1 i = q
def jOK (E : jE) : Prop := E.2.2.2.Nodup ∧ ∀ i ∈ E.2.2.2, ∀ j ∈ E.2.2.2, E.2.2.1 i = E.2.2.1 j → i = j
def jN (U : State) : Prop := ∀ w ∈ jnst, va_Nw w U
theorem jN.same {u U : State} (h : u.vm = U.vm) (H : jN u) : jN U := fun w hw => by
  have h2 := List.all_eq_true.mp jnst_ok w hw
  have h3 := H w hw
  cases w <;> first | exact va_Nw.same rfl h h3 | (exfalso; revert h2; simp [jnq])
theorem jN.warm {u U : State} (h : u.WarmedH U.vm) (H : jN u) : jN U := fun w hw => by
  have h2 := List.all_eq_true.mp jnst_ok w hw
  have h3 := H w hw
  cases w <;> first | exact va_Nw.warmF h h3 | (exfalso; revert h2; simp [jnq])
theorem jworld_get {E : jE} {I : jM} {q i : Nat} (h : E.2.2.2[q]? = some i) : (jworld E I)[q]? = some (E.2.2.1 i, jcell E.2.1 E.2.2.1 i I) := by
  unfold jworld; rw [List.getElem?_map, h]; rfl
theorem jworld_inv {E : jE} {I : jM} {q : Nat} {x : Nat × va_E} (h : (jworld E I)[q]? = some x) : ∃ i, E.2.2.2[q]? = some i ∧ x = (E.2.2.1 i, jcell E.2.1 E.2.2.1 i I) := by
  unfold jworld at h
  rw [List.getElem?_map] at h
  cases hq : E.2.2.2[q]? with
  | none => rw [hq] at h; cases h
  | some i => rw [hq] at h; exact ⟨i, rfl, (Option.some.inj h).symm⟩
theorem jmem_get {L : List Nat} {i : Nat} (h : i ∈ L) : ∃ q : Nat, L[q]? = some i := by
  obtain ⟨q, hq, e⟩ := List.getElem_of_mem h
  exact ⟨q, by rw [List.getElem?_eq_getElem hq, e]⟩
theorem jworld_D {E : jE} (h : jOK E) (I : jM) : va_D (jA E) (jworld E I) := by
  refine ⟨fun i j p q hi hj hpq => ?_, fun k q hk => ?_⟩
  · obtain ⟨a, ha, rfl⟩ := jworld_inv hi
    obtain ⟨b, hb, rfl⟩ := jworld_inv hj
    have hab := h.2 a (List.mem_of_getElem? ha) b (List.mem_of_getElem? hb) hpq
    subst hab
    exact (List.getElem?_inj (List.getElem?_eq_some_iff.mp ha).1 h.1).mp (ha.trans hb.symm)
  · obtain ⟨a, ha, rfl⟩ := jworld_inv hk
    exact ⟨a, List.mem_of_getElem? ha, rfl⟩
/-- one cell written: the world of the new memory -/
theorem jworld_set {E : jE} (h : jOK E) {I I' : jM} {q i : Nat} (hq : E.2.2.2[q]? = some i) (ho : ∀ a, a ≠ i → I' a = I a) {x : va_E} (hx : x = jcell E.2.1 E.2.2.1 i I') : (jworld E I).set q (E.2.2.1 i, x) = jworld E I' := by
  subst hx
  apply List.ext_getElem?
  intro n
  rw [List.getElem?_set]
  by_cases hn : q = n
  · subst hn
    have hl : q < (jworld E I).length := by
      unfold jworld; rw [List.length_map]; exact (List.getElem?_eq_some_iff.mp hq).1
    rw [if_pos rfl, if_pos hl, jworld_get hq]
  · rw [if_neg hn]
    unfold jworld
    rw [List.getElem?_map, List.getElem?_map]
    cases hb : E.2.2.2[n]? with
    | none => rfl
    | some b =>
      have hne : b ≠ i := fun e => by
        subst e
        exact hn ((List.getElem?_inj (List.getElem?_eq_some_iff.mp hq).1 h.1).mp (hq.trans hb.symm))
      show some (E.2.2.1 b, jcell E.2.1 E.2.2.1 b I) = some (E.2.2.1 b, jcell E.2.1 E.2.2.1 b I')
      rw [jcell_congr (ho b hne)]
theorem jcell_int {g : ClassId × ClassId × ClassId} {ad : Nat → Nat} {i : Nat} {I : jM} (h : jk i = 1000) : jcell g ad i I = .inl (g.1, jl i, .inl (I i)) := if_pos h
theorem jcell_boo {g : ClassId × ClassId × ClassId} {ad : Nat → Nat} {i : Nat} {I : jM} (h : jk i = 1001) : jcell g ad i I = .inl (g.2.1, jl i, .inl (I i)) := by
  unfold jcell; rw [if_neg (by rw [h]; decide), if_pos h]
theorem jcell_arr {g : ClassId × ClassId × ClassId} {ad : Nat → Nat} {i : Nat} {I : jM} (h : jk i = 1002) : jcell g ad i I = .inl (g.2.2, jl i, .inr (.inr (.inr (.inr (fun j => if j < jl i then some (ad (jw i j)) else none))))) := by
  unfold jcell; rw [if_neg (by rw [h]; decide), if_neg (by rw [h]; decide), if_pos h]
theorem jcell_obj {g : ClassId × ClassId × ClassId} {ad : Nat → Nat} {i ci : Nat} {I : jM} (h : jk i = ci) (h0 : ci ≠ 1000) (h1 : ci ≠ 1001) (h2 : ci ≠ 1002) : jcell g ad i I = .inr (ci, jfs ad i I) := by
  unfold jcell; subst h; rw [if_neg h0, if_neg h1, if_neg h2]
theorem jfs_len {ad : Nat → Nat} {i ci : Nat} {I : jM} (h : jk i = ci) : (jfs ad i I).length = jn ci := by
  unfold jfs; rw [List.length_map, List.length_range, h]
theorem jfs_get {ad : Nat → Nat} {i ci k : Nat} {I : jM} (h : jk i = ci) (hk : k < jn ci) : (jfs ad i I)[k]? = some (if jq ci k = true then Value.ref (ad (jr i k)) else Value.int (I i k)) := by
  subst h
  unfold jfs
  rw [List.getElem?_map, List.getElem?_range hk]
  rfl
theorem jfs_set {ad : Nat → Nat} {i ci k : Nat} {I : jM} {v : Int32} (h : jk i = ci) (hk : k < jn ci) (hq : jq ci k = false) : (jfs ad i I).set k (.int v) = jfs ad i (jwr I i k v) := by
  subst h
  apply List.ext_getElem?
  intro n
  rw [List.getElem?_set]
  by_cases hn : k = n
  · subst hn
    rw [if_pos rfl, if_pos (by rw [jfs_len rfl]; exact hk), jfs_get rfl hk, hq, jwr_same]
    simp [upd]
  · rw [if_neg hn]
    by_cases hl : n < jn (jk i)
    · rw [jfs_get rfl hl, jfs_get rfl hl, jwr_same]
      simp [upd, Ne.symm hn]
    · rw [List.getElem?_eq_none (by rw [jfs_len rfl]; omega), List.getElem?_eq_none (by rw [jfs_len rfl]; omega)]
/-- an object of class ci; an int array, a boolean array, an array of int arrays, of n places -/
def jOB (E : jE) (ci i : Nat) : Prop := i ∈ E.2.2.2 ∧ jk i = ci
def jAI (E : jE) (n i : Nat) : Prop := i ∈ E.2.2.2 ∧ jk i = 1000 ∧ jl i = n
def jAB (E : jE) (n i : Nat) : Prop := i ∈ E.2.2.2 ∧ jk i = 1001 ∧ jl i = n
def jAA (E : jE) (n i : Nat) : Prop := i ∈ E.2.2.2 ∧ jk i = 1002 ∧ jl i = n
/-- the machine at work: program, launch, environment, room, start, method, arguments, frames below, method's tables, code -/
abbrev jZ : Type := Program × Launch × Env × Room × State × MethodId × Array Value × List Frame × Method × Code
abbrev jZp (Z : jZ) : Program := Z.1
abbrev jZl (Z : jZ) : Launch := Z.2.1
abbrev jZe (Z : jZ) : Env := Z.2.2.1
abbrev jZR (Z : jZ) : Room := Z.2.2.2.1
abbrev jZs (Z : jZ) : State := Z.2.2.2.2.1
abbrev jZm (Z : jZ) : MethodId := Z.2.2.2.2.2.1
abbrev jZa (Z : jZ) : Array Value := Z.2.2.2.2.2.2.1
abbrev jZb (Z : jZ) : List Frame := Z.2.2.2.2.2.2.2.1
abbrev jZh (Z : jZ) : Method := Z.2.2.2.2.2.2.2.2.1
abbrev jZc (Z : jZ) : Code := Z.2.2.2.2.2.2.2.2.2
def jC (Z : jZ) (E : jE) (cc : ByteArray) (nL : Nat) (own : String) (fR lR : Nat) : Prop :=
  (jZp Z).tables.exec = Jvm.exec ∧ (jZc Z).code = cc ∧ (jZc Z).maxLocals = nL ∧ (jZs Z).vm.findClass own = some (jZm Z).cls ∧ (∀ w ∈ jtbl, w.before (jZa Z) (jZs Z) = true) ∧ va_K E.1 jCl (jtys E) (jZs Z) ∧ jN (jZs Z) ∧ jOK E ∧ (jZh Z).locks = false ∧ fR ≤ (jZR Z).frames ∧ lR ≤ (jZR Z).locals
theorem jC.x {Z E cc nL own fR lR} (C : jC Z E cc nL own fR lR) : (jZp Z).tables.exec = Jvm.exec := C.1
theorem jC.b {Z E cc nL own fR lR} (C : jC Z E cc nL own fR lR) : (jZc Z).code = cc := C.2.1
theorem jC.ml {Z E cc nL own fR lR} (C : jC Z E cc nL own fR lR) : (jZc Z).maxLocals = nL := C.2.2.1
theorem jC.own {Z E cc nL own fR lR} (C : jC Z E cc nL own fR lR) : (jZs Z).vm.findClass own = some (jZm Z).cls := C.2.2.2.1
theorem jC.ts {Z E cc nL own fR lR} (C : jC Z E cc nL own fR lR) : ∀ w ∈ jtbl, w.before (jZa Z) (jZs Z) = true := C.2.2.2.2.1
theorem jC.K {Z E cc nL own fR lR} (C : jC Z E cc nL own fR lR) : va_K E.1 jCl (jtys E) (jZs Z) := C.2.2.2.2.2.1
theorem jC.N {Z E cc nL own fR lR} (C : jC Z E cc nL own fR lR) : jN (jZs Z) := C.2.2.2.2.2.2.1
theorem jC.ok {Z E cc nL own fR lR} (C : jC Z E cc nL own fR lR) : jOK E := C.2.2.2.2.2.2.2.1
theorem jC.lk {Z E cc nL own fR lR} (C : jC Z E cc nL own fR lR) : (jZh Z).locks = false := C.2.2.2.2.2.2.2.2.1
theorem jC.fr {Z E cc nL own fR lR} (C : jC Z E cc nL own fR lR) : fR ≤ (jZR Z).frames := C.2.2.2.2.2.2.2.2.2.1
theorem jC.lo {Z E cc nL own fR lR} (C : jC Z E cc nL own fR lR) : lR ≤ (jZR Z).locals := C.2.2.2.2.2.2.2.2.2.2
/-- THE JUDGEMENT: at pc, with these locals, this stack and this memory, the machine comes to Q -/
def jJ (Z : jZ) (E : jE) (nL : Nat) (Q : State → Prop) (pc : Nat) (lv : List (Nat × Value)) (st : List Value) (I : jM) : Prop :=
  ∀ (ls : Array Slot) (H : Heap) (locs : List Loc), lv_has ls nL lv → va_P E.1 jCl (jworld E I) H → va_S (jA E) (jZs Z).heap H locs → W (jZp Z) (jZl Z) (jZe Z) (jZR Z) (jZs Z) (jZm Z) (jZa Z) (jZb Z) (jZh Z) (jZc Z) H locs 0 0 Q (F0 (jZm Z) pc ls st)
section JR
variable {Z : jZ} {E : jE} {cc : ByteArray} {nL : Nat} {own : String} {fR lR : Nat} {Q : State → Prop} {pc : Nat} {lv : List (Nat × Value)} {st : List Value} {I : jM}
theorem j_iconst (C : jC Z E cc nL own fR lR) {n : Int} {v : Int32} (d : decode cc pc = .ok (.iconst n, 1)) (hv : Int32.ofInt n = v) (h : jJ Z E nL Q (pc + 1) lv (.int v :: st) I) : jJ Z E nL Q pc lv st I := fun ls H locs hl hP hS => lv_iconst C.x C.b d hv (h ls H locs hl hP hS)
theorem j_bipush (C : jC Z E cc nL own fR lR) {n : Int} {v : Int32} (d : decode cc pc = .ok (.bipush n, 2)) (hv : (Int8.ofInt n).toInt32 = v) (h : jJ Z E nL Q (pc + 2) lv (.int v :: st) I) : jJ Z E nL Q pc lv st I := fun ls H locs hl hP hS => lv_bipush C.x C.b d hv (h ls H locs hl hP hS)
theorem j_sipush (C : jC Z E cc nL own fR lR) {n : Int} {v : Int32} (d : decode cc pc = .ok (.sipush n, 3)) (hv : (Int16.ofInt n).toInt32 = v) (h : jJ Z E nL Q (pc + 3) lv (.int v :: st) I) : jJ Z E nL Q pc lv st I := fun ls H locs hl hP hS => lv_sipush C.x C.b d hv (h ls H locs hl hP hS)
theorem j_ldcw (C : jC Z E cc nL own fR lR) {n : Nat} {v : Int32} (d : decode cc pc = .ok (.ldc_w n, 3)) (hw : Cond.constant own n v ∈ jtbl) (h : jJ Z E nL Q (pc + 3) lv (.int v :: st) I) : jJ Z E nL Q pc lv st I := fun ls H locs hl hP hS => lv_ldcw C.x C.b C.own (C.ts _ hw) d (h ls H locs hl hP hS)
theorem j_lconst (C : jC Z E cc nL own fR lR) {n : Fin 2} {v : Int64} (d : decode cc pc = .ok (.lconst n, 1)) (hv : Int64.ofNat (n : Nat) = v) (h : jJ Z E nL Q (pc + 1) lv (.long v :: st) I) : jJ Z E nL Q pc lv st I := fun ls H locs hl hP hS => lv_lconst C.x C.b d hv (h ls H locs hl hP hS)
theorem j_iload_n (C : jC Z E cc nL own fR lR) {k : Fin 4} {i : Nat} {x : Int32} (d : decode cc pc = .ok (.iload_n k, 1)) (hi : (k : Nat) = i) (n : Nat) (hn : lv[n]? = some (i, .int x)) (h : jJ Z E nL Q (pc + 1) lv (.int x :: st) I) : jJ Z E nL Q pc lv st I := fun ls H locs hl hP hS => lv_iload_n C.x C.b d hi (lv_at hl n hn) (h ls H locs hl hP hS)
theorem j_iload (C : jC Z E cc nL own fR lR) {i : Nat} {x : Int32} (d : decode cc pc = .ok (.iload i, 2)) (n : Nat) (hn : lv[n]? = some (i, .int x)) (h : jJ Z E nL Q (pc + 2) lv (.int x :: st) I) : jJ Z E nL Q pc lv st I := fun ls H locs hl hP hS => lv_iload C.x C.b d (lv_at hl n hn) (h ls H locs hl hP hS)
theorem j_lload_n (C : jC Z E cc nL own fR lR) {k : Fin 4} {i : Nat} {x : Int64} (d : decode cc pc = .ok (.lload_n k, 1)) (hi : (k : Nat) = i) (n : Nat) (hn : lv[n]? = some (i, .long x)) (h : jJ Z E nL Q (pc + 1) lv (.long x :: st) I) : jJ Z E nL Q pc lv st I := fun ls H locs hl hP hS => lv_lload_n C.x C.b d hi (lv_at hl n hn) (h ls H locs hl hP hS)
theorem j_lload (C : jC Z E cc nL own fR lR) {i : Nat} {x : Int64} (d : decode cc pc = .ok (.lload i, 2)) (n : Nat) (hn : lv[n]? = some (i, .long x)) (h : jJ Z E nL Q (pc + 2) lv (.long x :: st) I) : jJ Z E nL Q pc lv st I := fun ls H locs hl hP hS => lv_lload C.x C.b d (lv_at hl n hn) (h ls H locs hl hP hS)
theorem j_aload_n (C : jC Z E cc nL own fR lR) {k : Fin 4} {i : Nat} {x : Nat} (d : decode cc pc = .ok (.aload_n k, 1)) (hi : (k : Nat) = i) (n : Nat) (hn : lv[n]? = some (i, .ref x)) (h : jJ Z E nL Q (pc + 1) lv (.ref x :: st) I) : jJ Z E nL Q pc lv st I := fun ls H locs hl hP hS => lv_aload_n C.x C.b d hi (lv_at hl n hn) (h ls H locs hl hP hS)
theorem j_aload (C : jC Z E cc nL own fR lR) {i : Nat} {x : Nat} (d : decode cc pc = .ok (.aload i, 2)) (n : Nat) (hn : lv[n]? = some (i, .ref x)) (h : jJ Z E nL Q (pc + 2) lv (.ref x :: st) I) : jJ Z E nL Q pc lv st I := fun ls H locs hl hP hS => lv_aload C.x C.b d (lv_at hl n hn) (h ls H locs hl hP hS)
theorem j_istore_n (C : jC Z E cc nL own fR lR) {k : Fin 4} {i : Nat} {x : Int32} (d : decode cc pc = .ok (.istore_n k, 1)) (hi : (k : Nat) = i) (hn : i < nL) {lv' : List (Nat × Value)} (hl' : (i, Value.int x) :: lv.filter (fun q => !(q.1 == i) && !(q.1 + 1 == i && q.2.category == 2)) = lv') (h : jJ Z E nL Q (pc + 1) lv' st I) : jJ Z E nL Q pc lv (.int x :: st) I := fun ls H locs hl hP hS => lv_istore_n C.x C.b d hi hl hn hl' (fun ls' hl2 => h ls' H locs hl2 hP hS)
theorem j_istore (C : jC Z E cc nL own fR lR) {i : Nat} {x : Int32} (d : decode cc pc = .ok (.istore i, 2)) (hn : i < nL) {lv' : List (Nat × Value)} (hl' : (i, Value.int x) :: lv.filter (fun q => !(q.1 == i) && !(q.1 + 1 == i && q.2.category == 2)) = lv') (h : jJ Z E nL Q (pc + 2) lv' st I) : jJ Z E nL Q pc lv (.int x :: st) I := fun ls H locs hl hP hS => lv_istore C.x C.b d hl hn hl' (fun ls' hl2 => h ls' H locs hl2 hP hS)
theorem j_lstore_n (C : jC Z E cc nL own fR lR) {k : Fin 4} {i : Nat} {x : Int64} (d : decode cc pc = .ok (.lstore_n k, 1)) (hi : (k : Nat) = i) (hn : i + 1 < nL) {lv' : List (Nat × Value)} (hl' : (i, Value.long x) :: lv.filter (fun q => !(q.1 == i) && (!(q.1 == i + 1) && !(q.1 + 1 == i && q.2.category == 2))) = lv') (h : jJ Z E nL Q (pc + 1) lv' st I) : jJ Z E nL Q pc lv (.long x :: st) I := fun ls H locs hl hP hS => lv_lstore_n C.x C.b d hi hl hn hl' (fun ls' hl2 => h ls' H locs hl2 hP hS)
theorem j_lstore (C : jC Z E cc nL own fR lR) {i : Nat} {x : Int64} (d : decode cc pc = .ok (.lstore i, 2)) (hn : i + 1 < nL) {lv' : List (Nat × Value)} (hl' : (i, Value.long x) :: lv.filter (fun q => !(q.1 == i) && (!(q.1 == i + 1) && !(q.1 + 1 == i && q.2.category == 2))) = lv') (h : jJ Z E nL Q (pc + 2) lv' st I) : jJ Z E nL Q pc lv (.long x :: st) I := fun ls H locs hl hP hS => lv_lstore C.x C.b d hl hn hl' (fun ls' hl2 => h ls' H locs hl2 hP hS)
theorem j_astore_n (C : jC Z E cc nL own fR lR) {k : Fin 4} {i : Nat} {x : Nat} (d : decode cc pc = .ok (.astore_n k, 1)) (hi : (k : Nat) = i) (hn : i < nL) {lv' : List (Nat × Value)} (hl' : (i, Value.ref x) :: lv.filter (fun q => !(q.1 == i) && !(q.1 + 1 == i && q.2.category == 2)) = lv') (h : jJ Z E nL Q (pc + 1) lv' st I) : jJ Z E nL Q pc lv (.ref x :: st) I := fun ls H locs hl hP hS => lv_astore_n C.x C.b d hi hl hn hl' (fun ls' hl2 => h ls' H locs hl2 hP hS)
theorem j_iinc (C : jC Z E cc nL own fR lR) {i : Nat} {n : Int} {x v : Int32} (d : decode cc pc = .ok (.iinc i n, 3)) (k : Nat) (hk : lv[k]? = some (i, .int x)) (hv : x + Int32.ofInt n = v) (hn : i < nL) {lv' : List (Nat × Value)} (hl' : (i, Value.int v) :: lv.filter (fun q => !(q.1 == i) && !(q.1 + 1 == i && q.2.category == 2)) = lv') (h : jJ Z E nL Q (pc + 3) lv' st I) : jJ Z E nL Q pc lv st I := fun ls H locs hl hP hS => lv_iinc C.x C.b d hl hk hv hn hl' (fun ls' hl2 => h ls' H locs hl2 hP hS)
theorem j_iadd (C : jC Z E cc nL own fR lR) {x y : Int32} (d : decode cc pc = .ok (.iadd, 1)) (h : jJ Z E nL Q (pc + 1) lv (.int (x + y) :: st) I) : jJ Z E nL Q pc lv (.int y :: .int x :: st) I := fun ls H locs hl hP hS => lv_iadd C.x C.b d (h ls H locs hl hP hS)
theorem j_isub (C : jC Z E cc nL own fR lR) {x y : Int32} (d : decode cc pc = .ok (.isub, 1)) (h : jJ Z E nL Q (pc + 1) lv (.int (x - y) :: st) I) : jJ Z E nL Q pc lv (.int y :: .int x :: st) I := fun ls H locs hl hP hS => lv_isub C.x C.b d (h ls H locs hl hP hS)
theorem j_imul (C : jC Z E cc nL own fR lR) {x y : Int32} (d : decode cc pc = .ok (.imul, 1)) (h : jJ Z E nL Q (pc + 1) lv (.int (x * y) :: st) I) : jJ Z E nL Q pc lv (.int y :: .int x :: st) I := fun ls H locs hl hP hS => lv_imul C.x C.b d (h ls H locs hl hP hS)
theorem j_iand (C : jC Z E cc nL own fR lR) {x y : Int32} (d : decode cc pc = .ok (.iand, 1)) (h : jJ Z E nL Q (pc + 1) lv (.int (x &&& y) :: st) I) : jJ Z E nL Q pc lv (.int y :: .int x :: st) I := fun ls H locs hl hP hS => lv_iand C.x C.b d (h ls H locs hl hP hS)
theorem j_ior (C : jC Z E cc nL own fR lR) {x y : Int32} (d : decode cc pc = .ok (.ior, 1)) (h : jJ Z E nL Q (pc + 1) lv (.int (x ||| y) :: st) I) : jJ Z E nL Q pc lv (.int y :: .int x :: st) I := fun ls H locs hl hP hS => lv_ior C.x C.b d (h ls H locs hl hP hS)
theorem j_ixor (C : jC Z E cc nL own fR lR) {x y : Int32} (d : decode cc pc = .ok (.ixor, 1)) (h : jJ Z E nL Q (pc + 1) lv (.int (x ^^^ y) :: st) I) : jJ Z E nL Q pc lv (.int y :: .int x :: st) I := fun ls H locs hl hP hS => lv_ixor C.x C.b d (h ls H locs hl hP hS)
theorem j_ishl (C : jC Z E cc nL own fR lR) {x y : Int32} (d : decode cc pc = .ok (.ishl, 1)) (h : jJ Z E nL Q (pc + 1) lv (.int (x <<< (y &&& 31)) :: st) I) : jJ Z E nL Q pc lv (.int y :: .int x :: st) I := fun ls H locs hl hP hS => lv_ishl C.x C.b d (h ls H locs hl hP hS)
theorem j_ishr (C : jC Z E cc nL own fR lR) {x y : Int32} (d : decode cc pc = .ok (.ishr, 1)) (h : jJ Z E nL Q (pc + 1) lv (.int (x >>> (y &&& 31)) :: st) I) : jJ Z E nL Q pc lv (.int y :: .int x :: st) I := fun ls H locs hl hP hS => lv_ishr C.x C.b d (h ls H locs hl hP hS)
theorem j_iushr (C : jC Z E cc nL own fR lR) {x y : Int32} (d : decode cc pc = .ok (.iushr, 1)) (h : jJ Z E nL Q (pc + 1) lv (.int ((x.toUInt32 >>> (y.toUInt32 &&& Int32.toUInt32 31)).toInt32) :: st) I) : jJ Z E nL Q pc lv (.int y :: .int x :: st) I := fun ls H locs hl hP hS => lv_iushr C.x C.b d rfl (h ls H locs hl hP hS)
theorem j_ineg (C : jC Z E cc nL own fR lR) {x : Int32} (d : decode cc pc = .ok (.ineg, 1)) (h : jJ Z E nL Q (pc + 1) lv (.int (-x) :: st) I) : jJ Z E nL Q pc lv (.int x :: st) I := fun ls H locs hl hP hS => lv_ineg C.x C.b d (h ls H locs hl hP hS)
theorem j_idiv (C : jC Z E cc nL own fR lR) {x y : Int32} (d : decode cc pc = .ok (.idiv, 1)) (hne : ¬ y = 0) (h : jJ Z E nL Q (pc + 1) lv (.int (x / y) :: st) I) : jJ Z E nL Q pc lv (.int y :: .int x :: st) I := fun ls H locs hl hP hS => lv_idiv C.x C.b d hne (h ls H locs hl hP hS)
theorem j_irem (C : jC Z E cc nL own fR lR) {x y : Int32} (d : decode cc pc = .ok (.irem, 1)) (hne : ¬ y = 0) (h : jJ Z E nL Q (pc + 1) lv (.int (x - x / y * y) :: st) I) : jJ Z E nL Q pc lv (.int y :: .int x :: st) I := fun ls H locs hl hP hS => lv_irem C.x C.b d hne (h ls H locs hl hP hS)
theorem j_ladd (C : jC Z E cc nL own fR lR) {x y : Int64} (d : decode cc pc = .ok (.ladd, 1)) (h : jJ Z E nL Q (pc + 1) lv (.long (x + y) :: st) I) : jJ Z E nL Q pc lv (.long y :: .long x :: st) I := fun ls H locs hl hP hS => lv_ladd C.x C.b d (h ls H locs hl hP hS)
theorem j_lsub (C : jC Z E cc nL own fR lR) {x y : Int64} (d : decode cc pc = .ok (.lsub, 1)) (h : jJ Z E nL Q (pc + 1) lv (.long (x - y) :: st) I) : jJ Z E nL Q pc lv (.long y :: .long x :: st) I := fun ls H locs hl hP hS => lv_lsub C.x C.b d (h ls H locs hl hP hS)
theorem j_lmul (C : jC Z E cc nL own fR lR) {x y : Int64} (d : decode cc pc = .ok (.lmul, 1)) (h : jJ Z E nL Q (pc + 1) lv (.long (x * y) :: st) I) : jJ Z E nL Q pc lv (.long y :: .long x :: st) I := fun ls H locs hl hP hS => lv_lmul C.x C.b d (h ls H locs hl hP hS)
theorem j_lrem (C : jC Z E cc nL own fR lR) {x y : Int64} (d : decode cc pc = .ok (.lrem, 1)) (hne : ¬ y = 0) (h : jJ Z E nL Q (pc + 1) lv (.long (x - x / y * y) :: st) I) : jJ Z E nL Q pc lv (.long y :: .long x :: st) I := fun ls H locs hl hP hS => lv_lrem C.x C.b d hne (h ls H locs hl hP hS)
theorem j_lcmp (C : jC Z E cc nL own fR lR) {x y : Int64} (d : decode cc pc = .ok (.lcmp, 1)) (h : jJ Z E nL Q (pc + 1) lv (.int (lg_cmp x y) :: st) I) : jJ Z E nL Q pc lv (.long y :: .long x :: st) I := fun ls H locs hl hP hS => W.lcmp C.x C.b d (h ls H locs hl hP hS)
theorem j_i2l (C : jC Z E cc nL own fR lR) {x : Int32} (d : decode cc pc = .ok (.i2l, 1)) (h : jJ Z E nL Q (pc + 1) lv (.long x.toInt64 :: st) I) : jJ Z E nL Q pc lv (.int x :: st) I := fun ls H locs hl hP hS => lv_i2l C.x C.b d rfl (h ls H locs hl hP hS)
theorem j_l2i (C : jC Z E cc nL own fR lR) {x : Int64} (d : decode cc pc = .ok (.l2i, 1)) (h : jJ Z E nL Q (pc + 1) lv (.int x.toInt32 :: st) I) : jJ Z E nL Q pc lv (.long x :: st) I := fun ls H locs hl hP hS => lv_l2i C.x C.b d rfl (h ls H locs hl hP hS)
theorem j_dup (C : jC Z E cc nL own fR lR) {v : Value} (d : decode cc pc = .ok (.dup, 1)) (hv : v.category = 1) (h : jJ Z E nL Q (pc + 1) lv (v :: v :: st) I) : jJ Z E nL Q pc lv (v :: st) I := fun ls H locs hl hP hS => lv_dup C.x C.b d hv (h ls H locs hl hP hS)
theorem j_dup2 (C : jC Z E cc nL own fR lR) {v w : Value} (d : decode cc pc = .ok (.dup2, 1)) (hv : v.category = 1) (hw : w.category = 1) (h : jJ Z E nL Q (pc + 1) lv (v :: w :: v :: w :: st) I) : jJ Z E nL Q pc lv (v :: w :: st) I := fun ls H locs hl hP hS => lv_dup2_11 C.x C.b d hv hw (h ls H locs hl hP hS)
theorem j_pop (C : jC Z E cc nL own fR lR) {v : Value} (d : decode cc pc = .ok (.pop, 1)) (hv : v.category = 1) (h : jJ Z E nL Q (pc + 1) lv st I) : jJ Z E nL Q pc lv (v :: st) I := fun ls H locs hl hP hS => lv_pop C.x C.b d hv (h ls H locs hl hP hS)
theorem j_topi {x : Int32} (h : ∀ y : Int32, y = x → jJ Z E nL Q pc lv (.int y :: st) I) : jJ Z E nL Q pc lv (.int x :: st) I := h x rfl
theorem j_topl {x : Int64} (h : ∀ y : Int64, y = x → jJ Z E nL Q pc lv (.long y :: st) I) : jJ Z E nL Q pc lv (.long x :: st) I := h x rfl
theorem j_goto (C : jC Z E cc nL own fR lR) {off : Int} {tgt : Nat} (d : decode cc pc = .ok (.goto off, 3)) (ht : (pc : Int) + off = (tgt : Int)) (h : jJ Z E nL Q tgt lv st I) : jJ Z E nL Q pc lv st I := fun ls H locs hl hP hS => lv_goto C.x C.b d ht (h ls H locs hl hP hS)
/-- fewer locals, by their places -/
theorem j_lv {lv' : List (Nat × Value)} (ks : List Nat) (hk : lv_pick lv ks = lv') (h : jJ Z E nL Q pc lv' st I) : jJ Z E nL Q pc lv st I := fun ls H locs hl hP hS => h ls H locs (lv_sub hl ks hk) hP hS
theorem j_tableOut (C : jC Z E cc nL own fR lR) {dflt lo hi : Int} {offs : Array Int} {len : Nat} {x : Int32} {tgt : Nat} (d : decode cc pc = .ok (.tableswitch dflt lo hi offs, len)) (h0 : x.toInt < lo ∨ hi < x.toInt) (ht : (pc : Int) + dflt = (tgt : Int)) (h : jJ Z E nL Q tgt lv st I) : jJ Z E nL Q pc lv (.int x :: st) I := fun ls H locs hl hP hS => lv_tableOut C.x C.b d h0 ht (h ls H locs hl hP hS)
theorem j_tableIn (C : jC Z E cc nL own fR lR) {dflt lo hi : Int} {offs : Array Int} {len : Nat} {x : Int32} {off : Int} {tgt : Nat} (d : decode cc pc = .ok (.tableswitch dflt lo hi offs, len)) (h1 : ¬ x.toInt < lo) (h2 : ¬ hi < x.toInt) (ho : offs[(x.toInt - lo).toNat]? = some off) (ht : (pc : Int) + off = (tgt : Int)) (h : jJ Z E nL Q tgt lv st I) : jJ Z E nL Q pc lv (.int x :: st) I := fun ls H locs hl hP hS => lv_tableIn C.x C.b d h1 h2 ho ht (h ls H locs hl hP hS)
theorem j_if_eq (C : jC Z E cc nL own fR lR) {x : Int32} {off : Int} {tgt : Nat} (d : decode cc pc = .ok (.ifCond .eq off, 3)) (ht : (pc : Int) + off = (tgt : Int)) (kt : x = 0 → jJ Z E nL Q tgt lv st I) (kf : ¬ x = 0 → jJ Z E nL Q (pc + 3) lv st I) : jJ Z E nL Q pc lv (.int x :: st) I := fun ls H locs hl hP hS => lv_if_eq C.x C.b d ht (fun q => kt q ls H locs hl hP hS) (fun q => kf q ls H locs hl hP hS)
theorem j_icmp_eq (C : jC Z E cc nL own fR lR) {x y : Int32} {off : Int} {tgt : Nat} (d : decode cc pc = .ok (.if_icmp .eq off, 3)) (ht : (pc : Int) + off = (tgt : Int)) (kt : x = y → jJ Z E nL Q tgt lv st I) (kf : ¬ x = y → jJ Z E nL Q (pc + 3) lv st I) : jJ Z E nL Q pc lv (.int y :: .int x :: st) I := fun ls H locs hl hP hS => lv_icmp_eq C.x C.b d ht (fun q => kt q ls H locs hl hP hS) (fun q => kf q ls H locs hl hP hS)
theorem j_if_ne (C : jC Z E cc nL own fR lR) {x : Int32} {off : Int} {tgt : Nat} (d : decode cc pc = .ok (.ifCond .ne off, 3)) (ht : (pc : Int) + off = (tgt : Int)) (kt : ¬ x = 0 → jJ Z E nL Q tgt lv st I) (kf : x = 0 → jJ Z E nL Q (pc + 3) lv st I) : jJ Z E nL Q pc lv (.int x :: st) I := fun ls H locs hl hP hS => lv_if_ne C.x C.b d ht (fun q => kt q ls H locs hl hP hS) (fun q => kf q ls H locs hl hP hS)
theorem j_icmp_ne (C : jC Z E cc nL own fR lR) {x y : Int32} {off : Int} {tgt : Nat} (d : decode cc pc = .ok (.if_icmp .ne off, 3)) (ht : (pc : Int) + off = (tgt : Int)) (kt : ¬ x = y → jJ Z E nL Q tgt lv st I) (kf : x = y → jJ Z E nL Q (pc + 3) lv st I) : jJ Z E nL Q pc lv (.int y :: .int x :: st) I := fun ls H locs hl hP hS => lv_icmp_ne C.x C.b d ht (fun q => kt q ls H locs hl hP hS) (fun q => kf q ls H locs hl hP hS)
theorem j_if_lt (C : jC Z E cc nL own fR lR) {x : Int32} {off : Int} {tgt : Nat} (d : decode cc pc = .ok (.ifCond .lt off, 3)) (ht : (pc : Int) + off = (tgt : Int)) (kt : x < 0 → jJ Z E nL Q tgt lv st I) (kf : ¬ x < 0 → jJ Z E nL Q (pc + 3) lv st I) : jJ Z E nL Q pc lv (.int x :: st) I := fun ls H locs hl hP hS => lv_if_lt C.x C.b d ht (fun q => kt q ls H locs hl hP hS) (fun q => kf q ls H locs hl hP hS)
theorem j_icmp_lt (C : jC Z E cc nL own fR lR) {x y : Int32} {off : Int} {tgt : Nat} (d : decode cc pc = .ok (.if_icmp .lt off, 3)) (ht : (pc : Int) + off = (tgt : Int)) (kt : x < y → jJ Z E nL Q tgt lv st I) (kf : ¬ x < y → jJ Z E nL Q (pc + 3) lv st I) : jJ Z E nL Q pc lv (.int y :: .int x :: st) I := fun ls H locs hl hP hS => lv_icmp_lt C.x C.b d ht (fun q => kt q ls H locs hl hP hS) (fun q => kf q ls H locs hl hP hS)
theorem j_if_ge (C : jC Z E cc nL own fR lR) {x : Int32} {off : Int} {tgt : Nat} (d : decode cc pc = .ok (.ifCond .ge off, 3)) (ht : (pc : Int) + off = (tgt : Int)) (kt : 0 ≤ x → jJ Z E nL Q tgt lv st I) (kf : ¬ 0 ≤ x → jJ Z E nL Q (pc + 3) lv st I) : jJ Z E nL Q pc lv (.int x :: st) I := fun ls H locs hl hP hS => lv_if_ge C.x C.b d ht (fun q => kt q ls H locs hl hP hS) (fun q => kf q ls H locs hl hP hS)
theorem j_icmp_ge (C : jC Z E cc nL own fR lR) {x y : Int32} {off : Int} {tgt : Nat} (d : decode cc pc = .ok (.if_icmp .ge off, 3)) (ht : (pc : Int) + off = (tgt : Int)) (kt : y ≤ x → jJ Z E nL Q tgt lv st I) (kf : ¬ y ≤ x → jJ Z E nL Q (pc + 3) lv st I) : jJ Z E nL Q pc lv (.int y :: .int x :: st) I := fun ls H locs hl hP hS => lv_icmp_ge C.x C.b d ht (fun q => kt q ls H locs hl hP hS) (fun q => kf q ls H locs hl hP hS)
theorem j_if_gt (C : jC Z E cc nL own fR lR) {x : Int32} {off : Int} {tgt : Nat} (d : decode cc pc = .ok (.ifCond .gt off, 3)) (ht : (pc : Int) + off = (tgt : Int)) (kt : 0 < x → jJ Z E nL Q tgt lv st I) (kf : ¬ 0 < x → jJ Z E nL Q (pc + 3) lv st I) : jJ Z E nL Q pc lv (.int x :: st) I := fun ls H locs hl hP hS => lv_if_gt C.x C.b d ht (fun q => kt q ls H locs hl hP hS) (fun q => kf q ls H locs hl hP hS)
theorem j_icmp_gt (C : jC Z E cc nL own fR lR) {x y : Int32} {off : Int} {tgt : Nat} (d : decode cc pc = .ok (.if_icmp .gt off, 3)) (ht : (pc : Int) + off = (tgt : Int)) (kt : y < x → jJ Z E nL Q tgt lv st I) (kf : ¬ y < x → jJ Z E nL Q (pc + 3) lv st I) : jJ Z E nL Q pc lv (.int y :: .int x :: st) I := fun ls H locs hl hP hS => lv_icmp_gt C.x C.b d ht (fun q => kt q ls H locs hl hP hS) (fun q => kf q ls H locs hl hP hS)
theorem j_if_le (C : jC Z E cc nL own fR lR) {x : Int32} {off : Int} {tgt : Nat} (d : decode cc pc = .ok (.ifCond .le off, 3)) (ht : (pc : Int) + off = (tgt : Int)) (kt : x ≤ 0 → jJ Z E nL Q tgt lv st I) (kf : ¬ x ≤ 0 → jJ Z E nL Q (pc + 3) lv st I) : jJ Z E nL Q pc lv (.int x :: st) I := fun ls H locs hl hP hS => lv_if_le C.x C.b d ht (fun q => kt q ls H locs hl hP hS) (fun q => kf q ls H locs hl hP hS)
theorem j_icmp_le (C : jC Z E cc nL own fR lR) {x y : Int32} {off : Int} {tgt : Nat} (d : decode cc pc = .ok (.if_icmp .le off, 3)) (ht : (pc : Int) + off = (tgt : Int)) (kt : x ≤ y → jJ Z E nL Q tgt lv st I) (kf : ¬ x ≤ y → jJ Z E nL Q (pc + 3) lv st I) : jJ Z E nL Q pc lv (.int y :: .int x :: st) I := fun ls H locs hl hP hS => lv_icmp_le C.x C.b d ht (fun q => kt q ls H locs hl hP hS) (fun q => kf q ls H locs hl hP hS)
end JR
end
section
/-! ===== the J layer: fields, arrays ===== -/
section JM
variable {Z : jZ} {E : jE} {cc : ByteArray} {nL : Nat} {own : String} {fR lR : Nat} {Q : State → Prop} {pc : Nat} {lv : List (Nat × Value)} {st : List Value} {I : jM}
/-- a cell is given its new row: the world of the new memory -/
theorem jP_set {H1 : Heap} (h : jOK E) {I' : jM} {q i : Nat} (hq : E.2.2.2[q]? = some i) (ho : ∀ a, a ≠ i → I' a = I a) {x : va_E} (hx : x = jcell E.2.1 E.2.2.1 i I') (hP : va_P E.1 jCl ((jworld E I).set q (E.2.2.1 i, x)) H1) : va_P E.1 jCl (jworld E I') H1 := by
  rw [jworld_set h hq ho hx] at hP; exact hP
theorem j_getI (C : jC Z E cc nL own fR lR) {ci : Nat} {Cn ref : String} {F : u_T} {N : Nat} {ty : Nat → FieldType} (hc : jcl ci Cn F N ty) {i k idx : Nat} (hi : jOB E ci i) (hk : k < N) (hq : jq ci k = false) (hF : (F k).1 = ref) (hw : Cond.fieldLink own idx ref (F k).2.1 (F k).2.2.1 ∈ jtbl) (d : decode cc pc = .ok (.getfield idx, 3)) (h : jJ Z E nL Q (pc + 3) lv (.int (I i k) :: st) I) : jJ Z E nL Q pc lv (.ref (E.2.2.1 i) :: st) I := fun ls H locs hl hP hS => by
  obtain ⟨q, hq0⟩ := jmem_get hi.1
  have he := jworld_get (I := I) hq0
  rw [jcell_obj hi.2 hc.2.2.1 hc.2.2.2.1 hc.2.2.2.2.1] at he
  have hv : (jfs E.2.2.1 i I)[k]? = some (Value.int (I i k)) := by
    rw [jfs_get hi.2 (hc.2.1 ▸ hk), hq]; rfl
  exact va_get (D := E.1) (ci := ci) C.x C.b C.ts hc.2.2.2.2.2.1 C.own C.K hP q he hc.1 k hk (C.ts _ hw) (fun x hx => hF ▸ hx) hv d (h ls H locs hl hP hS)
theorem j_getR (C : jC Z E cc nL own fR lR) {ci : Nat} {Cn ref : String} {F : u_T} {N : Nat} {ty : Nat → FieldType} (hc : jcl ci Cn F N ty) {i k idx : Nat} (hi : jOB E ci i) (hk : k < N) (hq : jq ci k = true) (hF : (F k).1 = ref) (hw : Cond.fieldLink own idx ref (F k).2.1 (F k).2.2.1 ∈ jtbl) (d : decode cc pc = .ok (.getfield idx, 3)) (h : jJ Z E nL Q (pc + 3) lv (.ref (E.2.2.1 (jr i k)) :: st) I) : jJ Z E nL Q pc lv (.ref (E.2.2.1 i) :: st) I := fun ls H locs hl hP hS => by
  obtain ⟨q, hq0⟩ := jmem_get hi.1
  have he := jworld_get (I := I) hq0
  rw [jcell_obj hi.2 hc.2.2.1 hc.2.2.2.1 hc.2.2.2.2.1] at he
  have hv : (jfs E.2.2.1 i I)[k]? = some (Value.ref (E.2.2.1 (jr i k))) := by
    rw [jfs_get hi.2 (hc.2.1 ▸ hk), hq]; rfl
  exact va_get (D := E.1) (ci := ci) C.x C.b C.ts hc.2.2.2.2.2.1 C.own C.K hP q he hc.1 k hk (C.ts _ hw) (fun x hx => hF ▸ hx) hv d (h ls H locs hl hP hS)
theorem j_getIN (C : jC Z E cc nL own fR lR) {ci : Nat} {Cn ref host : String} {F : u_T} {N : Nat} {ty : Nat → FieldType} (hc : jcl ci Cn F N ty) {i k idx : Nat} (hi : jOB E ci i) (hk : k < N) (hq : jq ci k = false) (hF : (F k).1 = ref) (hw : Cond.fieldLinkNest own idx ref (F k).2.1 (F k).2.2.1 host ∈ jnst) (d : decode cc pc = .ok (.getfield idx, 3)) (h : jJ Z E nL Q (pc + 3) lv (.int (I i k) :: st) I) : jJ Z E nL Q pc lv (.ref (E.2.2.1 i) :: st) I := fun ls H locs hl hP hS => by
  obtain ⟨q, hq0⟩ := jmem_get hi.1
  have he := jworld_get (I := I) hq0
  rw [jcell_obj hi.2 hc.2.2.1 hc.2.2.2.1 hc.2.2.2.2.1] at he
  have hv : (jfs E.2.2.1 i I)[k]? = some (Value.int (I i k)) := by
    rw [jfs_get hi.2 (hc.2.1 ▸ hk), hq]; rfl
  exact va_getN (D := E.1) (ci := ci) C.x C.b C.ts hc.2.2.2.2.2.1 C.own C.K hP q he hc.1 k hk (va_Nw.use rfl (C.N _ hw)) (fun x hx => hF ▸ hx) hv d (h ls H locs hl hP hS)
theorem j_getRN (C : jC Z E cc nL own fR lR) {ci : Nat} {Cn ref host : String} {F : u_T} {N : Nat} {ty : Nat → FieldType} (hc : jcl ci Cn F N ty) {i k idx : Nat} (hi : jOB E ci i) (hk : k < N) (hq : jq ci k = true) (hF : (F k).1 = ref) (hw : Cond.fieldLinkNest own idx ref (F k).2.1 (F k).2.2.1 host ∈ jnst) (d : decode cc pc = .ok (.getfield idx, 3)) (h : jJ Z E nL Q (pc + 3) lv (.ref (E.2.2.1 (jr i k)) :: st) I) : jJ Z E nL Q pc lv (.ref (E.2.2.1 i) :: st) I := fun ls H locs hl hP hS => by
  obtain ⟨q, hq0⟩ := jmem_get hi.1
  have he := jworld_get (I := I) hq0
  rw [jcell_obj hi.2 hc.2.2.1 hc.2.2.2.1 hc.2.2.2.2.1] at he
  have hv : (jfs E.2.2.1 i I)[k]? = some (Value.ref (E.2.2.1 (jr i k))) := by
    rw [jfs_get hi.2 (hc.2.1 ▸ hk), hq]; rfl
  exact va_getN (D := E.1) (ci := ci) C.x C.b C.ts hc.2.2.2.2.2.1 C.own C.K hP q he hc.1 k hk (va_Nw.use rfl (C.N _ hw)) (fun x hx => hF ▸ hx) hv d (h ls H locs hl hP hS)
theorem j_put (C : jC Z E cc nL own fR lR) {ci : Nat} {Cn ref : String} {F : u_T} {N : Nat} {ty : Nat → FieldType} (hc : jcl ci Cn F N ty) {i k idx : Nat} {v : Int32} (hi : jOB E ci i) (hk : k < N) (hq : jq ci k = false) (hF : (F k).1 = ref) (hfin : (F k).2.2.2 = false) (hw : Cond.fieldLink own idx ref (F k).2.1 (F k).2.2.1 ∈ jtbl) (hn : narrow (ty k) (.int v) = .int v) (hf : fits (ty k) (.int v) = true) (d : decode cc pc = .ok (.putfield idx, 3)) (h : jJ Z E nL Q (pc + 3) lv st (jwr I i k v)) : jJ Z E nL Q pc lv (.int v :: .ref (E.2.2.1 i) :: st) I := fun ls H locs hl hP hS => by
  obtain ⟨q, hq0⟩ := jmem_get hi.1
  have he := jworld_get (I := I) hq0
  have hkn : k < jn ci := hc.2.1 ▸ hk
  rw [jcell_obj hi.2 hc.2.2.1 hc.2.2.2.1 hc.2.2.2.2.1] at he
  refine va_put (D := E.1) (ci := ci) (v := .int v) (ty := ty k) C.x C.b C.ts hc.2.2.2.2.2.1 ty hc.2.2.2.2.2.2.1 hc.2.2.2.2.2.2.2 C.own C.K hP (jworld_D C.ok I) hS q he hc.1 k hk (C.ts _ hw) (fun x hx => hF ▸ hx) hfin (hc.2.2.2.2.2.2.1 k hk) hn hf (by rw [jfs_len hi.2]; exact hkn) d (fun H1 locs1 hP1 _ hS1 => ?_)
  refine h ls H1 locs1 hl (jP_set C.ok hq0 (I' := jwr I i k v) (fun a ha => jwr_ne ha) ?_ hP1) hS1
  rw [jcell_obj hi.2 hc.2.2.1 hc.2.2.2.1 hc.2.2.2.2.1, jfs_set hi.2 hkn hq]
theorem j_putN (C : jC Z E cc nL own fR lR) {ci : Nat} {Cn ref host : String} {F : u_T} {N : Nat} {ty : Nat → FieldType} (hc : jcl ci Cn F N ty) {i k idx : Nat} {v : Int32} (hi : jOB E ci i) (hk : k < N) (hq : jq ci k = false) (hF : (F k).1 = ref) (hfin : (F k).2.2.2 = false) (hw : Cond.fieldLinkNest own idx ref (F k).2.1 (F k).2.2.1 host ∈ jnst) (hn : narrow (ty k) (.int v) = .int v) (hf : fits (ty k) (.int v) = true) (d : decode cc pc = .ok (.putfield idx, 3)) (h : jJ Z E nL Q (pc + 3) lv st (jwr I i k v)) : jJ Z E nL Q pc lv (.int v :: .ref (E.2.2.1 i) :: st) I := fun ls H locs hl hP hS => by
  obtain ⟨q, hq0⟩ := jmem_get hi.1
  have he := jworld_get (I := I) hq0
  have hkn : k < jn ci := hc.2.1 ▸ hk
  rw [jcell_obj hi.2 hc.2.2.1 hc.2.2.2.1 hc.2.2.2.2.1] at he
  refine va_putN (D := E.1) (ci := ci) (v := .int v) (ty := ty k) C.x C.b C.ts hc.2.2.2.2.2.1 ty hc.2.2.2.2.2.2.1 hc.2.2.2.2.2.2.2 C.own C.K hP (jworld_D C.ok I) hS q he hc.1 k hk (va_Nw.use rfl (C.N _ hw)) (fun x hx => hF ▸ hx) hfin (hc.2.2.2.2.2.2.1 k hk) hn hf (by rw [jfs_len hi.2]; exact hkn) d (fun H1 locs1 hP1 _ hS1 => ?_)
  refine h ls H1 locs1 hl (jP_set C.ok hq0 (I' := jwr I i k v) (fun a ha => jwr_ne ha) ?_ hP1) hS1
  rw [jcell_obj hi.2 hc.2.2.1 hc.2.2.2.1 hc.2.2.2.2.1, jfs_set hi.2 hkn hq]
theorem j_iaload (C : jC Z E cc nL own fR lR) {n i : Nat} {x : Int32} (hi : jAI E n i) (hin : vp_in x n) (d : decode cc pc = .ok (.iaload, 1)) (h : jJ Z E nL Q (pc + 1) lv (.int (I i x.toNatClampNeg) :: st) I) : jJ Z E nL Q pc lv (.int x :: .ref (E.2.2.1 i) :: st) I := fun ls H locs hl hP hS => by
  obtain ⟨q, hq0⟩ := jmem_get hi.1
  have he := jworld_get (I := I) hq0
  rw [jcell_int hi.2.1, hi.2.2] at he
  exact va_iald C.x C.b C.K hP q 0 he rfl hin d (h ls H locs hl hP hS)
theorem j_zaload (C : jC Z E cc nL own fR lR) {n i : Nat} {x : Int32} (hi : jAB E n i) (hin : vp_in x n) (d : decode cc pc = .ok (.baload, 1)) (h : jJ Z E nL Q (pc + 1) lv (.int (I i x.toNatClampNeg) :: st) I) : jJ Z E nL Q pc lv (.int x :: .ref (E.2.2.1 i) :: st) I := fun ls H locs hl hP hS => by
  obtain ⟨q, hq0⟩ := jmem_get hi.1
  have he := jworld_get (I := I) hq0
  rw [jcell_boo hi.2.1, hi.2.2] at he
  exact va_zald C.x C.b C.K hP q 1 he rfl hin d (h ls H locs hl hP hS)
theorem j_iastore (C : jC Z E cc nL own fR lR) {n i : Nat} {x v : Int32} (hi : jAI E n i) (hin : vp_in x n) (d : decode cc pc = .ok (.iastore, 1)) (h : jJ Z E nL Q (pc + 1) lv st (jwr I i x.toNatClampNeg v)) : jJ Z E nL Q pc lv (.int v :: .int x :: .ref (E.2.2.1 i) :: st) I := fun ls H locs hl hP hS => by
  obtain ⟨q, hq0⟩ := jmem_get hi.1
  have he := jworld_get (I := I) hq0
  rw [jcell_int hi.2.1, hi.2.2] at he
  refine va_iast C.x C.b C.K hP (jworld_D C.ok I) hS q 0 he rfl hin d (fun H1 locs1 hP1 _ hS1 => ?_)
  refine h ls H1 locs1 hl (jP_set C.ok hq0 (I' := jwr I i x.toNatClampNeg v) (fun a ha => jwr_ne ha) ?_ hP1) hS1
  rw [jcell_int hi.2.1, hi.2.2, jwr_same]
theorem j_zastore (C : jC Z E cc nL own fR lR) {n i : Nat} {x v : Int32} (hi : jAB E n i) (hin : vp_in x n) (d : decode cc pc = .ok (.bastore, 1)) (h : jJ Z E nL Q (pc + 1) lv st (jwr I i x.toNatClampNeg (vp_nar .boolean v))) : jJ Z E nL Q pc lv (.int v :: .int x :: .ref (E.2.2.1 i) :: st) I := fun ls H locs hl hP hS => by
  obtain ⟨q, hq0⟩ := jmem_get hi.1
  have he := jworld_get (I := I) hq0
  rw [jcell_boo hi.2.1, hi.2.2] at he
  refine va_zast C.x C.b C.K hP (jworld_D C.ok I) hS q 1 he rfl hin d (fun H1 locs1 hP1 _ hS1 => ?_)
  refine h ls H1 locs1 hl (jP_set C.ok hq0 (I' := jwr I i x.toNatClampNeg (vp_nar .boolean v)) (fun a ha => jwr_ne ha) ?_ hP1) hS1
  rw [jcell_boo hi.2.1, hi.2.2, jwr_same]
theorem j_alen (C : jC Z E cc nL own fR lR) {n i : Nat} {v : Int32} (hi : jAI E n i) (hv : Int32.ofNat n = v) (d : decode cc pc = .ok (.arraylength, 1)) (h : jJ Z E nL Q (pc + 1) lv (.int v :: st) I) : jJ Z E nL Q pc lv (.ref (E.2.2.1 i) :: st) I := fun ls H locs hl hP hS => by
  obtain ⟨q, hq0⟩ := jmem_get hi.1
  have he := jworld_get (I := I) hq0
  rw [jcell_int hi.2.1, hi.2.2] at he
  exact va_alen C.x C.b C.K hP q 0 he (ty := .int) rfl hv d (h ls H locs hl hP hS)
theorem j_aaload (C : jC Z E cc nL own fR lR) {n i : Nat} {x : Int32} (hi : jAA E n i) (hin : vp_in x n) (d : decode cc pc = .ok (.aaload, 1)) (h : jJ Z E nL Q (pc + 1) lv (.ref (E.2.2.1 (jw i x.toNatClampNeg)) :: st) I) : jJ Z E nL Q pc lv (.int x :: .ref (E.2.2.1 i) :: st) I := fun ls H locs hl hP hS => by
  obtain ⟨q, hq0⟩ := jmem_get hi.1
  have he := jworld_get (I := I) hq0
  rw [jcell_arr hi.2.1, hi.2.2] at he
  have hlt : x.toNatClampNeg < n := Nat.not_le.mp fun q => hin (Or.inr q)
  have hat := hP q _ he
  exact W.aald (v := Value.ref (E.2.2.1 (jw i x.toNatClampNeg))) (ty := .array .int) C.x C.b hat ((C.K.2 2 _ rfl).1 n (fun j => va_rf (if j < n then some (E.2.2.1 (jw i j)) else none))) rfl (fun q => by cases q) (by show ¬ (x < 0 ∨ (arrV _ _ _).slots.size ≤ _); rw [arrV_size]; exact hin) (by show (arrV _ _ _).slots[_]? = _; rw [arrV_read _ _ hlt]; simp [hlt, va_rf]) rfl rfl d (h ls H locs hl hP hS)
end JM
end
section
/-! ===== the J layer: contracts, calls, answers ===== -/
/-- the world of a memory, in a state -/
def jB (E : jE) (I : jM) (U : State) : Prop := va_P E.1 jCl (jworld E I) U.heap ∧ va_K E.1 jCl (jtys E) U ∧ jN U
theorem jB_blind (E : jE) (I : jM) (as : List Value) : FrameBlind (va_Pc as (jB E I)) := fun a U g mk q => by
  obtain ⟨q0, qP, qK, qN⟩ := q
  exact ⟨q0, qP, va_K.moved (u := U) (U := U.calling g mk a) (Vm.Alike.refl U.vm) qK, jN.same (u := U) (U := U.calling g mk a) rfl qN⟩
/-- contracts: the answer and the memory behind the method are as K says (an int, nothing, a cell) -/
def jSi (l : Launch) (E : jE) (y : MethodName) (cc : ByteArray) (mL : Nat) (ret : Option FieldType) (f L : Nat) (as : List Value) (I : jM) (K : Int32 → jM → Prop) : Prop :=
  Met l y (.code y cc mL ret :: jtbl) ({ frames := f, cells := 0, slots := 0, locals := L } : Room) (va_Pc as (jB E I)) (va_Qi K (jB E) (jA E)) 0 0 (jA E)
def jSv (l : Launch) (E : jE) (y : MethodName) (cc : ByteArray) (mL : Nat) (ret : Option FieldType) (f L : Nat) (as : List Value) (I : jM) (K : jM → Prop) : Prop :=
  Met l y (.code y cc mL ret :: jtbl) ({ frames := f, cells := 0, slots := 0, locals := L } : Room) (va_Pc as (jB E I)) (va_Qv K (jB E) (jA E)) 0 0 (jA E)
def jSr (l : Launch) (E : jE) (y : MethodName) (cc : ByteArray) (mL : Nat) (ret : Option FieldType) (f L : Nat) (as : List Value) (I : jM) (K : Nat → jM → Prop) : Prop :=
  Met l y (.code y cc mL ret :: jtbl) ({ frames := f, cells := 0, slots := 0, locals := L } : Room) (va_Pc as (jB E I)) (va_Qr (fun u : Nat × jM => K u.1 u.2) (fun u a t => a = E.2.2.1 u.1 ∧ jB E u.2 t) (jA E)) 0 0 (jA E)
def jQi (Z : jZ) (E : jE) (K : Int32 → jM → Prop) : State → Prop := MQ (jZb Z) (va_Qi K (jB E) (jA E)) (jZa Z) (jZs Z) 0 0 (jA E)
def jQv (Z : jZ) (E : jE) (K : jM → Prop) : State → Prop := MQ (jZb Z) (va_Qv K (jB E) (jA E)) (jZa Z) (jZs Z) 0 0 (jA E)
def jQr (Z : jZ) (E : jE) (K : Nat → jM → Prop) : State → Prop := MQ (jZb Z) (va_Qr (fun u : Nat × jM => K u.1 u.2) (fun u a t => a = E.2.2.1 u.1 ∧ jB E u.2 t) (jA E)) (jZa Z) (jZs Z) 0 0 (jA E)
theorem jgood {w : Cond} (h : w ∈ jtbl) : (w.onTables && w.keeps) = true ∨ ∃ ty, w = .arrayClass ty := good_of_word (List.mem_filter.mp h).2
theorem jgoodIn {y : MethodName} {cc : ByteArray} {mL : Nat} {ret : Option FieldType} (h : Cond.code y cc mL ret ∈ jtbl) : GoodIn jtbl (.code y cc mL ret :: jtbl) := fun w hw => by
  rcases List.mem_cons.mp hw with e | hw
  · rw [e]; exact ⟨h, jgood h⟩
  · exact ⟨hw, jgood hw⟩
section JS
variable {l : Launch} {E : jE} {y : MethodName} {cc : ByteArray} {mL f L : Nat} {ret : Option FieldType} {as : List Value} {I : jM} {own : String}
theorem jS_of {Qc : Array Value → State → Outcome → State → Prop} (hy : plainName y.cls = true) (hown : y.cls = own) (hok : jOK E) (hlen : (lg_sl as).length ≤ mL)
    (body : ∀ Z : jZ, jZl Z = l → jC Z E cc mL own f L → (jZh Z).sig.returnType = ret → jJ Z E mL (MQ (jZb Z) Qc (jZa Z) (jZs Z) 0 0 (jA E)) 0 (lv_args 0 as) [] I) :
    Met l y (.code y cc mL ret :: jtbl) ({ frames := f, cells := 0, slots := 0, locals := L } : Room) (va_Pc as (jB E I)) Qc 0 0 (jA E) := by
  refine Met.ofW (cc := cc) (maxL := mL) (ret := ret) hy rfl ?_
  intro p e s m args below meth c s₁ B hml hv
  obtain ⟨rfl, hP, hK, hN⟩ := hv
  have hts := atoms_spec (ws := .code y cc mL ret :: jtbl) B.pre
  have ho : s.vm.findClass own = some m.cls := hown ▸ findClass_of_methodNamed B.named
  have hl := lv_entry as (n := mL) hlen
  rw [lg_entry_eq]
  exact body (p, l, e, (headSpec (.code y cc mL ret :: jtbl) ({ frames := f, cells := 0, slots := 0, locals := L } : Room)).room, s, m, as.toArray, below, meth, c) rfl ⟨B.exec, B.bytes, hml, ho, fun w hw => hts w (List.mem_cons_of_mem _ hw), hK, hN, hok, B.notSynchronized, Nat.le_refl _, Nat.le_refl _⟩ B.returns _ s.heap [] hl hP va_S.rf
end JS
section JR2
variable {Z : jZ} {E : jE} {cc : ByteArray} {nL : Nat} {own : String} {fR lR : Nat} {Q : State → Prop} {pc : Nat} {lv : List (Nat × Value)} {st : List Value} {I : jM}
theorem j_iret (C : jC Z E cc nL own fR lR) (hr : (jZh Z).sig.returnType = some .int) {K : Int32 → jM → Prop} {v : Int32} (d : decode cc pc = .ok (.ireturn, 1)) (h : K v I) : jJ Z E nL (jQi Z E K) pc lv [.int v] I := fun ls H locs hl hP hS =>
  W.iret C.x C.b hr (fun t ht hW => ⟨⟨v, I, rfl, h, by rw [ht]; exact hP, va_K.moved hW.alike C.K, C.N.warm hW⟩, hS.F ht⟩) hS.2.2 d C.lk
theorem j_zret (C : jC Z E cc nL own fR lR) (hr : (jZh Z).sig.returnType = some .boolean) {K : Int32 → jM → Prop} {v : Int32} (hn : narrow .boolean (.int v) = .int v) (d : decode cc pc = .ok (.ireturn, 1)) (h : K v I) : jJ Z E nL (jQi Z E K) pc lv [.int v] I := fun ls H locs hl hP hS =>
  W.zret C.x C.b hr hn (fun t ht hW => ⟨⟨v, I, rfl, h, by rw [ht]; exact hP, va_K.moved hW.alike C.K, C.N.warm hW⟩, hS.F ht⟩) hS.2.2 d C.lk
theorem j_vret (C : jC Z E cc nL own fR lR) (hr : (jZh Z).sig.returnType = none) {K : jM → Prop} (d : decode cc pc = .ok (.return_, 1)) (h : K I) : jJ Z E nL (jQv Z E K) pc lv [] I := fun ls H locs hl hP hS =>
  W.vret C.x C.b hr (fun t ht hW => ⟨⟨I, rfl, h, by rw [ht]; exact hP, va_K.moved hW.alike C.K, C.N.warm hW⟩, hS.F ht⟩) hS.2.2 d C.lk
theorem j_aret (C : jC Z E cc nL own fR lR) {n : String} (hr : (jZh Z).sig.returnType = some (.object n)) {K : Nat → jM → Prop} {v : Nat} (d : decode cc pc = .ok (.areturn, 1)) (h : K v I) : jJ Z E nL (jQr Z E K) pc lv [.ref (E.2.2.1 v)] I := fun ls H locs hl hP hS =>
  W.aret C.x C.b hr (Or.inl ⟨n, rfl⟩) (Or.inr ⟨_, rfl⟩) (fun t ht hW => ⟨⟨(v, I), _, rfl, h, rfl, by rw [ht]; exact hP, va_K.moved hW.alike C.K, C.N.warm hW⟩, hS.F ht⟩) hS.2.2 d C.lk
/-- what a call needs of the tables -/
def jcw (own : String) (idx : Nat) (y : MethodName) (bytes : ByteArray) (mL : Nat) (ret : Option FieldType) (n : Nat) : Prop :=
  Cond.code y bytes mL ret ∈ jtbl ∧ Cond.methodLink own idx y ∈ jtbl ∧ Cond.initialized y.cls ∈ jtbl ∧ (y.cls ≠ "java/lang/invoke/MethodHandle" ∧ y.cls ≠ "java/lang/invoke/VarHandle") ∧ (parseMethodDescriptor y.desc).map (fun d => d.parameters.length) = some n
theorem jcw_B (C : jC Z E cc nL own fR lR) {idx : Nat} {y : MethodName} {bytes : ByteArray} {mL n f L : Nat} {ret : Option FieldType} (w : jcw own idx y bytes mL ret n) (hf : f + 1 ≤ fR) (hl : 8 + (mL + 11) + L ≤ lR) : CallB (jZR Z) (jZs Z) (jZa Z) own idx y bytes mL ret (.code y bytes mL ret :: jtbl) ({ frames := f, cells := 0, slots := 0, locals := L } : Room) 0 0 n := by
  refine ⟨rfl, rfl, Nat.le_trans hf C.fr, Nat.le_trans hl C.lo, pay_in C.ts (jgoodIn w.1), List.mem_cons_self, C.ts _ w.1, C.ts _ w.2.2.1, w.2.2.2.1, fun sig h => ?_, C.ts _ w.2.1⟩
  have h2 := w.2.2.2.2
  rw [h] at h2
  exact (Option.some.inj h2).symm
theorem j_preV (C : jC Z E cc nL own fR lR) {H : Heap} {ci : Nat} {Cn : String} {F : u_T} {N : Nat} {ty : Nat → FieldType} (hc : jcl ci Cn F N ty) {b : Nat} (hb : jOB E ci b) (hP : va_P E.1 jCl (jworld E I) H) (As : List Value) : PreV (jZs Z) H Cn (E.2.2.1 b) (va_Pc (.ref (E.2.2.1 b) :: As) (jB E I)) As := by
  obtain ⟨q, hq0⟩ := jmem_get hb.1
  have he := jworld_get (I := I) hq0
  rw [jcell_obj hb.2 hc.2.2.1 hc.2.2.2.1 hc.2.2.2.2.1] at he
  exact ⟨jB_blind E I _, va_recv C.K hP hc.1 he, fun U hU hW => ⟨rfl, by rw [hU]; exact hP, va_K.moved hW.alike C.K, C.N.warm hW⟩⟩
theorem j_preS (C : jC Z E cc nL own fR lR) {H : Heap} (hP : va_P E.1 jCl (jworld E I) H) (As : List Value) : PreS (jZs Z) H (va_Pc As (jB E I)) As :=
  ⟨jB_blind E I _, fun U hU hW => ⟨rfl, by rw [hU]; exact hP, va_K.moved hW.alike C.K, C.N.warm hW⟩⟩
theorem j_callVi (C : jC Z E cc nL own fR lR) {ci : Nat} {Cn : String} {F : u_T} {N : Nat} {ty : Nat → FieldType} (hc : jcl ci Cn F N ty) {idx : Nat} {y : MethodName} {bytes : ByteArray} {mL n f L : Nat} {ret : Option FieldType} (w : jcw own idx y bytes mL ret n) (hin : Cond.instanceMethod y ∈ jtbl) (hse : Cond.selects Cn y y ∈ jtbl) {b : Nat} {As st0 : List Value} {K : Int32 → jM → Prop} (hb : jOB E ci b) (hn : As.length = n) (hst : st0 = As.reverse ++ Value.ref (E.2.2.1 b) :: st) (hf : f + 1 ≤ fR) (hl : 8 + (mL + 11) + L ≤ lR) (hW : (st.map fun v => v.category).sum ≤ 8) (d : decode cc pc = .ok (.invokevirtual idx, 3))
    (hM : jSi (jZl Z) E y bytes mL ret f L (.ref (E.2.2.1 b) :: As) I K) (h : ∀ r I', K r I' → jJ Z E nL Q (pc + 3) lv (.int r :: st) I') : jJ Z E nL Q pc lv st0 I := fun ls H locs hlv hP hS =>
  va_calli (va_runV (As := As) (rest := st) ⟨C.x, C.b, C.ml, C.own, C.ts⟩ hM ⟨jcw_B C w hf hl, C.ts _ hin, C.ts _ hse⟩ (j_preV C hc hb hP As) rfl hn hlv.1 hst (by show 2 * 0 + _ ≤ 8; omega) d ⟨Nat.zero_le _, Nat.zero_le _⟩) hS (fun q _ h => h) (fun q h => h) (fun r u t H1 locs1 ht _ hw hB _ _ hS1 => h r u hw ls H1 locs1 hlv (by rw [← ht]; exact hB.1) hS1)
theorem j_callVv (C : jC Z E cc nL own fR lR) {ci : Nat} {Cn : String} {F : u_T} {N : Nat} {ty : Nat → FieldType} (hc : jcl ci Cn F N ty) {idx : Nat} {y : MethodName} {bytes : ByteArray} {mL n f L : Nat} {ret : Option FieldType} (w : jcw own idx y bytes mL ret n) (hin : Cond.instanceMethod y ∈ jtbl) (hse : Cond.selects Cn y y ∈ jtbl) {b : Nat} {As st0 : List Value} {K : jM → Prop} (hb : jOB E ci b) (hn : As.length = n) (hst : st0 = As.reverse ++ Value.ref (E.2.2.1 b) :: st) (hf : f + 1 ≤ fR) (hl : 8 + (mL + 11) + L ≤ lR) (hW : (st.map fun v => v.category).sum ≤ 8) (d : decode cc pc = .ok (.invokevirtual idx, 3))
    (hM : jSv (jZl Z) E y bytes mL ret f L (.ref (E.2.2.1 b) :: As) I K) (h : ∀ I', K I' → jJ Z E nL Q (pc + 3) lv st I') : jJ Z E nL Q pc lv st0 I := fun ls H locs hlv hP hS =>
  va_callv (va_runV (As := As) (rest := st) ⟨C.x, C.b, C.ml, C.own, C.ts⟩ hM ⟨jcw_B C w hf hl, C.ts _ hin, C.ts _ hse⟩ (j_preV C hc hb hP As) rfl hn hlv.1 hst (by show 2 * 0 + _ ≤ 8; omega) d ⟨Nat.zero_le _, Nat.zero_le _⟩) hS (fun q _ h => h) (fun q h => h) (fun u t H1 locs1 ht _ hw hB _ _ hS1 => h u hw ls H1 locs1 hlv (by rw [← ht]; exact hB.1) hS1)
theorem j_callVr (C : jC Z E cc nL own fR lR) {ci : Nat} {Cn : String} {F : u_T} {N : Nat} {ty : Nat → FieldType} (hc : jcl ci Cn F N ty) {idx : Nat} {y : MethodName} {bytes : ByteArray} {mL n f L : Nat} {ret : Option FieldType} (w : jcw own idx y bytes mL ret n) (hin : Cond.instanceMethod y ∈ jtbl) (hse : Cond.selects Cn y y ∈ jtbl) {b : Nat} {As st0 : List Value} {K : Nat → jM → Prop} (hb : jOB E ci b) (hn : As.length = n) (hst : st0 = As.reverse ++ Value.ref (E.2.2.1 b) :: st) (hf : f + 1 ≤ fR) (hl : 8 + (mL + 11) + L ≤ lR) (hW : (st.map fun v => v.category).sum ≤ 8) (d : decode cc pc = .ok (.invokevirtual idx, 3))
    (hM : jSr (jZl Z) E y bytes mL ret f L (.ref (E.2.2.1 b) :: As) I K) (h : ∀ k I', K k I' → jJ Z E nL Q (pc + 3) lv (.ref (E.2.2.1 k) :: st) I') : jJ Z E nL Q pc lv st0 I := fun ls H locs hlv hP hS =>
  va_callr (va_runV (As := As) (rest := st) ⟨C.x, C.b, C.ml, C.own, C.ts⟩ hM ⟨jcw_B C w hf hl, C.ts _ hin, C.ts _ hse⟩ (j_preV C hc hb hP As) rfl hn hlv.1 hst (by show 2 * 0 + _ ≤ 8; omega) d ⟨Nat.zero_le _, Nat.zero_le _⟩) hS (fun q _ h => h) (fun q h => h) (fun u ra t H1 locs1 ht _ hw hB _ _ hS1 => by obtain ⟨rfl, hB⟩ := hB; exact h u.1 u.2 hw ls H1 locs1 hlv (by rw [← ht]; exact hB.1) hS1)
theorem j_callSi (C : jC Z E cc nL own fR lR) {idx : Nat} {y : MethodName} {bytes : ByteArray} {mL n f L : Nat} {ret : Option FieldType} (w : jcw own idx y bytes mL ret n) (hstat : Cond.static y ∈ jtbl) {As st0 : List Value} {K : Int32 → jM → Prop} (hn : As.length = n) (hst : st0 = As.reverse ++ st) (hf : f + 1 ≤ fR) (hl : 8 + (mL + 11) + L ≤ lR) (hW : (st.map fun v => v.category).sum ≤ 8) (d : decode cc pc = .ok (.invokestatic idx, 3))
    (hM : jSi (jZl Z) E y bytes mL ret f L As I K) (h : ∀ r I', K r I' → jJ Z E nL Q (pc + 3) lv (.int r :: st) I') : jJ Z E nL Q pc lv st0 I := fun ls H locs hlv hP hS =>
  va_calli (va_runS (As := As) (rest := st) ⟨C.x, C.b, C.ml, C.own, C.ts⟩ hM ⟨jcw_B C w hf hl, C.ts _ hstat⟩ (j_preS C hP As) rfl hn hlv.1 hst (by show 2 * 0 + _ ≤ 8; omega) d ⟨Nat.zero_le _, Nat.zero_le _⟩) hS (fun q _ h => h) (fun q h => h) (fun r u t H1 locs1 ht _ hw hB _ _ hS1 => h r u hw ls H1 locs1 hlv (by rw [← ht]; exact hB.1) hS1)
theorem j_callSv (C : jC Z E cc nL own fR lR) {idx : Nat} {y : MethodName} {bytes : ByteArray} {mL n f L : Nat} {ret : Option FieldType} (w : jcw own idx y bytes mL ret n) (hstat : Cond.static y ∈ jtbl) {As st0 : List Value} {K : jM → Prop} (hn : As.length = n) (hst : st0 = As.reverse ++ st) (hf : f + 1 ≤ fR) (hl : 8 + (mL + 11) + L ≤ lR) (hW : (st.map fun v => v.category).sum ≤ 8) (d : decode cc pc = .ok (.invokestatic idx, 3))
    (hM : jSv (jZl Z) E y bytes mL ret f L As I K) (h : ∀ I', K I' → jJ Z E nL Q (pc + 3) lv st I') : jJ Z E nL Q pc lv st0 I := fun ls H locs hlv hP hS =>
  va_callv (va_runS (As := As) (rest := st) ⟨C.x, C.b, C.ml, C.own, C.ts⟩ hM ⟨jcw_B C w hf hl, C.ts _ hstat⟩ (j_preS C hP As) rfl hn hlv.1 hst (by show 2 * 0 + _ ≤ 8; omega) d ⟨Nat.zero_le _, Nat.zero_le _⟩) hS (fun q _ h => h) (fun q h => h) (fun u t H1 locs1 ht _ hw hB _ _ hS1 => h u hw ls H1 locs1 hlv (by rw [← ht]; exact hB.1) hS1)
theorem j_copy (C : jC Z E cc nL own fR lR) {idx a b na nb : Nat} {sp dp n : Int32} (ha : jAI E na a) (hb : jAI E nb b) (hlink : Cond.methodLink own idx arraycopyName ∈ jtbl) (hnat : Cond.native arraycopyName ∈ jtbl) (hstat : Cond.static arraycopyName ∈ jtbl) (hini : Cond.initialized "java/lang/System" ∈ jtbl) (h1 : ¬ sp < 0) (h2 : ¬ dp < 0) (h3 : ¬ n < 0) (h4 : sp.toNatClampNeg + n.toNatClampNeg ≤ na) (h5 : dp.toNatClampNeg + n.toNatClampNeg ≤ nb) (hf : 1 ≤ fR) (hl : (st.map fun v => v.category).sum + (nativeFrameWords "java/lang/System" "arraycopy" 5 + 11) ≤ lR) (d : decode cc pc = .ok (.invokestatic idx, 3))
    (h : jJ Z E nL Q (pc + 3) lv st (jrow I b (va_cpy (I a) (I b) sp.toNatClampNeg dp.toNatClampNeg n.toNatClampNeg))) : jJ Z E nL Q pc lv (.int n :: .int dp :: .ref (E.2.2.1 b) :: .int sp :: .ref (E.2.2.1 a) :: st) I := fun ls H locs hlv hP hS => by
  obtain ⟨qa, hqa⟩ := jmem_get ha.1
  have hea := jworld_get (I := I) hqa
  rw [jcell_int ha.2.1, ha.2.2] at hea
  obtain ⟨qb, hqb⟩ := jmem_get hb.1
  have heb := jworld_get (I := I) hqb
  rw [jcell_int hb.2.1, hb.2.2] at heb
  refine va_copyi C.x C.b (C.ml.trans hlv.1.symm) C.own (C.ts _ hlink) (C.ts _ hnat) (C.ts _ hstat) (C.ts _ hini) C.K hP (jworld_D C.ok I) hS qa qb 0 0 (ty := .int) hea heb rfl rfl rfl h1 h2 h3 h4 h5 (fun _ _ => rfl) (Nat.le_trans hf C.fr) (Nat.le_trans hl C.lo) d (fun H1 locs1 hP1 _ hS1 => ?_)
  refine h ls H1 locs1 hlv (jP_set C.ok hqb (I' := jrow I b (va_cpy (I a) (I b) sp.toNatClampNeg dp.toNatClampNeg n.toNatClampNeg)) (fun x hx => jrow_ne hx) ?_ hP1) hS1
  rw [jcell_int hb.2.1, hb.2.2, jrow_same]
end JR2
/-- loops: the least fixed point; a walk is closed under it at once, a proof goes by a measure -/
def lp {σ : Type} (F : (σ → Prop) → σ → Prop) (s : σ) : Prop := ∀ X : σ → Prop, (∀ t, F X t → X t) → X s
theorem lp_i {σ : Type} {F : (σ → Prop) → σ → Prop} (V : σ → Prop) (μ : σ → Nat) (h : ∀ (t : σ) (X : σ → Prop), V t → (∀ t', V t' → μ t' < μ t → X t') → F X t) {s : σ} (hs : V s) : lp F s := by
  intro X hX
  have key : ∀ n t, V t → μ t < n → X t := by
    intro n
    induction n with
    | zero => intro t _ hn; exact absurd hn (Nat.not_lt_zero _)
    | succ n ih => intro t ht hn; exact hX t (h t X ht (fun t' ht' hlt => ih t' ht' (by omega)))
  exact key (μ s + 1) s hs (Nat.lt_succ_self _)
end
