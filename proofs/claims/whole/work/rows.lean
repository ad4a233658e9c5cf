section
-- ===== PART A: goes FIRST, ahead of the names: the tables' words, and 'selects' of the private methods out of them =====
/-- a private method of a class that the tables say can be made, by its rows of tables_1 -/
def lw_okq (q : MethodName × Nat) : Prop := (q.1.cls ≠ "java/lang/invoke/MethodHandle" ∧ q.1.cls ≠ "java/lang/invoke/VarHandle") ∧ Cond.instantiable q.1.cls q.2 ∈ tables_1 ∧ Cond.privateMethod q.1 ∈ tables_1 ∧ Cond.instanceMethod q.1 ∈ tables_1
theorem lw_p0 : lw_okq (⟨"MarkedHands", "found", "(I)I"⟩, 12) := ⟨⟨by decide +kernel, by decide +kernel⟩, List.mem_of_getElem? (i := 14) (by decide +kernel), List.mem_of_getElem? (i := 322) (by decide +kernel), List.mem_of_getElem? (i := 323) (by decide +kernel)⟩
theorem lw_p1 : lw_okq (⟨"MarkedHands", "settle", "()V"⟩, 12) := ⟨⟨by decide +kernel, by decide +kernel⟩, List.mem_of_getElem? (i := 14) (by decide +kernel), List.mem_of_getElem? (i := 339) (by decide +kernel), List.mem_of_getElem? (i := 340) (by decide +kernel)⟩
theorem lw_p2 : lw_okq (⟨"MarkedHands$Balance", "findHands", "()V"⟩, 17) := ⟨⟨by decide +kernel, by decide +kernel⟩, List.mem_of_getElem? (i := 51) (by decide +kernel), List.mem_of_getElem? (i := 351) (by decide +kernel), List.mem_of_getElem? (i := 352) (by decide +kernel)⟩
theorem lw_p3 : lw_okq (⟨"MarkedHands$Balance", "findReach", "()V"⟩, 17) := ⟨⟨by decide +kernel, by decide +kernel⟩, List.mem_of_getElem? (i := 51) (by decide +kernel), List.mem_of_getElem? (i := 361) (by decide +kernel), List.mem_of_getElem? (i := 362) (by decide +kernel)⟩
theorem lw_p4 : lw_okq (⟨"MarkedHands$Balance", "findBundles", "()V"⟩, 17) := ⟨⟨by decide +kernel, by decide +kernel⟩, List.mem_of_getElem? (i := 51) (by decide +kernel), List.mem_of_getElem? (i := 365) (by decide +kernel), List.mem_of_getElem? (i := 366) (by decide +kernel)⟩
theorem lw_p5 : lw_okq (⟨"MarkedHands$Balance", "layRows", "()V"⟩, 17) := ⟨⟨by decide +kernel, by decide +kernel⟩, List.mem_of_getElem? (i := 51) (by decide +kernel), List.mem_of_getElem? (i := 372) (by decide +kernel), List.mem_of_getElem? (i := 373) (by decide +kernel)⟩
theorem lw_p6 : lw_okq (⟨"MarkedHands$Balance", "isFree", "(I)Z"⟩, 17) := ⟨⟨by decide +kernel, by decide +kernel⟩, List.mem_of_getElem? (i := 51) (by decide +kernel), List.mem_of_getElem? (i := 376) (by decide +kernel), List.mem_of_getElem? (i := 377) (by decide +kernel)⟩
theorem lw_p7 : lw_okq (⟨"MarkedHands$Balance", "isIn", "(II)Z"⟩, 17) := ⟨⟨by decide +kernel, by decide +kernel⟩, List.mem_of_getElem? (i := 51) (by decide +kernel), List.mem_of_getElem? (i := 380) (by decide +kernel), List.mem_of_getElem? (i := 381) (by decide +kernel)⟩
theorem lw_p8 : lw_okq (⟨"MarkedHands$Balance", "push", "(II)J"⟩, 17) := ⟨⟨by decide +kernel, by decide +kernel⟩, List.mem_of_getElem? (i := 51) (by decide +kernel), List.mem_of_getElem? (i := 385) (by decide +kernel), List.mem_of_getElem? (i := 386) (by decide +kernel)⟩
theorem lw_p9 : lw_okq (⟨"MarkedHands$Balance", "invert", "()V"⟩, 17) := ⟨⟨by decide +kernel, by decide +kernel⟩, List.mem_of_getElem? (i := 51) (by decide +kernel), List.mem_of_getElem? (i := 389) (by decide +kernel), List.mem_of_getElem? (i := 390) (by decide +kernel)⟩
theorem lw_p10 : lw_okq (⟨"MarkedHands$Balance", "cofactor", "(II)J"⟩, 17) := ⟨⟨by decide +kernel, by decide +kernel⟩, List.mem_of_getElem? (i := 51) (by decide +kernel), List.mem_of_getElem? (i := 393) (by decide +kernel), List.mem_of_getElem? (i := 394) (by decide +kernel)⟩
theorem lw_p11 : lw_okq (⟨"MarkedHands$Balance", "findPull", "()V"⟩, 17) := ⟨⟨by decide +kernel, by decide +kernel⟩, List.mem_of_getElem? (i := 51) (by decide +kernel), List.mem_of_getElem? (i := 401) (by decide +kernel), List.mem_of_getElem? (i := 402) (by decide +kernel)⟩
theorem lw_p12 : lw_okq (⟨"MarkedHands", "isAhead", "(III)Z"⟩, 12) := ⟨⟨by decide +kernel, by decide +kernel⟩, List.mem_of_getElem? (i := 14) (by decide +kernel), List.mem_of_getElem? (i := 466) (by decide +kernel), List.mem_of_getElem? (i := 467) (by decide +kernel)⟩
theorem lw_p13 : lw_okq (⟨"MarkedHands$Laws", "look", "()V"⟩, 7) := ⟨⟨by decide +kernel, by decide +kernel⟩, List.mem_of_getElem? (i := 203) (by decide +kernel), List.mem_of_getElem? (i := 485) (by decide +kernel), List.mem_of_getElem? (i := 486) (by decide +kernel)⟩
theorem lw_p14 : lw_okq (⟨"MarkedHands$Laws", "lookAtPart", "()Z"⟩, 7) := ⟨⟨by decide +kernel, by decide +kernel⟩, List.mem_of_getElem? (i := 203) (by decide +kernel), List.mem_of_getElem? (i := 489) (by decide +kernel), List.mem_of_getElem? (i := 490) (by decide +kernel)⟩
theorem lw_p15 : lw_okq (⟨"MarkedHands$Laws", "byteAt", "(I)I"⟩, 7) := ⟨⟨by decide +kernel, by decide +kernel⟩, List.mem_of_getElem? (i := 203) (by decide +kernel), List.mem_of_getElem? (i := 493) (by decide +kernel), List.mem_of_getElem? (i := 494) (by decide +kernel)⟩
def lw_privs_1 : List (MethodName × Nat) := [(⟨"MarkedHands", "found", "(I)I"⟩, 12), (⟨"MarkedHands", "settle", "()V"⟩, 12), (⟨"MarkedHands$Balance", "findHands", "()V"⟩, 17), (⟨"MarkedHands$Balance", "findReach", "()V"⟩, 17), (⟨"MarkedHands$Balance", "findBundles", "()V"⟩, 17), (⟨"MarkedHands$Balance", "layRows", "()V"⟩, 17), (⟨"MarkedHands$Balance", "isFree", "(I)Z"⟩, 17), (⟨"MarkedHands$Balance", "isIn", "(II)Z"⟩, 17), (⟨"MarkedHands$Balance", "push", "(II)J"⟩, 17), (⟨"MarkedHands$Balance", "invert", "()V"⟩, 17), (⟨"MarkedHands$Balance", "cofactor", "(II)J"⟩, 17), (⟨"MarkedHands$Balance", "findPull", "()V"⟩, 17), (⟨"MarkedHands", "isAhead", "(III)Z"⟩, 12), (⟨"MarkedHands$Laws", "look", "()V"⟩, 7), (⟨"MarkedHands$Laws", "lookAtPart", "()Z"⟩, 7), (⟨"MarkedHands$Laws", "byteAt", "(I)I"⟩, 7)]
theorem lw_r1 : ∀ q ∈ lw_privs_1, lw_okq q := List.forall_mem_cons.mpr ⟨lw_p0, List.forall_mem_cons.mpr ⟨lw_p1, List.forall_mem_cons.mpr ⟨lw_p2, List.forall_mem_cons.mpr ⟨lw_p3, List.forall_mem_cons.mpr ⟨lw_p4, List.forall_mem_cons.mpr ⟨lw_p5, List.forall_mem_cons.mpr ⟨lw_p6, List.forall_mem_cons.mpr ⟨lw_p7, List.forall_mem_cons.mpr ⟨lw_p8, List.forall_mem_cons.mpr ⟨lw_p9, List.forall_mem_cons.mpr ⟨lw_p10, List.forall_mem_cons.mpr ⟨lw_p11, List.forall_mem_cons.mpr ⟨lw_p12, List.forall_mem_cons.mpr ⟨lw_p13, List.forall_mem_cons.mpr ⟨lw_p14, List.forall_mem_cons.mpr ⟨lw_p15, fun _ h => absurd h List.not_mem_nil⟩⟩⟩⟩⟩⟩⟩⟩⟩⟩⟩⟩⟩⟩⟩⟩
theorem lw_p16 : lw_okq (⟨"MarkedHands$Laws", "failAt", "(I)Z"⟩, 7) := ⟨⟨by decide +kernel, by decide +kernel⟩, List.mem_of_getElem? (i := 203) (by decide +kernel), List.mem_of_getElem? (i := 497) (by decide +kernel), List.mem_of_getElem? (i := 498) (by decide +kernel)⟩
theorem lw_p17 : lw_okq (⟨"MarkedHands$Laws", "lookAtNumber", "()I"⟩, 7) := ⟨⟨by decide +kernel, by decide +kernel⟩, List.mem_of_getElem? (i := 203) (by decide +kernel), List.mem_of_getElem? (i := 501) (by decide +kernel), List.mem_of_getElem? (i := 502) (by decide +kernel)⟩
theorem lw_p18 : lw_okq (⟨"MarkedHands$Laws", "isFigure", "(I)Z"⟩, 7) := ⟨⟨by decide +kernel, by decide +kernel⟩, List.mem_of_getElem? (i := 203) (by decide +kernel), List.mem_of_getElem? (i := 505) (by decide +kernel), List.mem_of_getElem? (i := 506) (by decide +kernel)⟩
theorem lw_p19 : lw_okq (⟨"MarkedHands", "gradeWith", "(II)I"⟩, 12) := ⟨⟨by decide +kernel, by decide +kernel⟩, List.mem_of_getElem? (i := 14) (by decide +kernel), List.mem_of_getElem? (i := 525) (by decide +kernel), List.mem_of_getElem? (i := 526) (by decide +kernel)⟩
theorem lw_p20 : lw_okq (⟨"MarkedHands$Step", "take", "(ILMarkedHands$Balance;)V"⟩, 4) := ⟨⟨by decide +kernel, by decide +kernel⟩, List.mem_of_getElem? (i := 129) (by decide +kernel), List.mem_of_getElem? (i := 582) (by decide +kernel), List.mem_of_getElem? (i := 583) (by decide +kernel)⟩
theorem lw_p21 : lw_okq (⟨"MarkedHands$Ties", "cheapest", "(LMarkedHands$Balance;[I)I"⟩, 4) := ⟨⟨by decide +kernel, by decide +kernel⟩, List.mem_of_getElem? (i := 152) (by decide +kernel), List.mem_of_getElem? (i := 607) (by decide +kernel), List.mem_of_getElem? (i := 608) (by decide +kernel)⟩
theorem lw_p22 : lw_okq (⟨"MarkedHands$Ties", "join", "(II)V"⟩, 4) := ⟨⟨by decide +kernel, by decide +kernel⟩, List.mem_of_getElem? (i := 152) (by decide +kernel), List.mem_of_getElem? (i := 611) (by decide +kernel), List.mem_of_getElem? (i := 612) (by decide +kernel)⟩
theorem lw_p23 : lw_okq (⟨"MarkedHands", "laterLessEarlier", "(II)J"⟩, 12) := ⟨⟨by decide +kernel, by decide +kernel⟩, List.mem_of_getElem? (i := 14) (by decide +kernel), List.mem_of_getElem? (i := 623) (by decide +kernel), List.mem_of_getElem? (i := 624) (by decide +kernel)⟩
theorem lw_p24 : lw_okq (⟨"MarkedHands", "toldBefore", "(II)I"⟩, 12) := ⟨⟨by decide +kernel, by decide +kernel⟩, List.mem_of_getElem? (i := 14) (by decide +kernel), List.mem_of_getElem? (i := 627) (by decide +kernel), List.mem_of_getElem? (i := 628) (by decide +kernel)⟩
theorem lw_p25 : lw_okq (⟨"MarkedHands$Agreement", "deals", "(III)I"⟩, 7) := ⟨⟨by decide +kernel, by decide +kernel⟩, List.mem_of_getElem? (i := 174) (by decide +kernel), List.mem_of_getElem? (i := 652) (by decide +kernel), List.mem_of_getElem? (i := 653) (by decide +kernel)⟩
theorem lw_p26 : lw_okq (⟨"MarkedHands$Agreement", "gain", "(II)I"⟩, 7) := ⟨⟨by decide +kernel, by decide +kernel⟩, List.mem_of_getElem? (i := 174) (by decide +kernel), List.mem_of_getElem? (i := 656) (by decide +kernel), List.mem_of_getElem? (i := 657) (by decide +kernel)⟩
theorem lw_p27 : lw_okq (⟨"MarkedHandsModel", "tells", "(IIII)I"⟩, 41) := ⟨⟨by decide +kernel, by decide +kernel⟩, List.mem_of_getElem? (i := 767) (by decide +kernel), List.mem_of_getElem? (i := 902) (by decide +kernel), List.mem_of_getElem? (i := 903) (by decide +kernel)⟩
theorem lw_p28 : lw_okq (⟨"MarkedHandsModel", "lastTime", "()I"⟩, 41) := ⟨⟨by decide +kernel, by decide +kernel⟩, List.mem_of_getElem? (i := 767) (by decide +kernel), List.mem_of_getElem? (i := 915) (by decide +kernel), List.mem_of_getElem? (i := 916) (by decide +kernel)⟩
theorem lw_p29 : lw_okq (⟨"MarkedHandsModel", "meets", "(I)I"⟩, 41) := ⟨⟨by decide +kernel, by decide +kernel⟩, List.mem_of_getElem? (i := 767) (by decide +kernel), List.mem_of_getElem? (i := 926) (by decide +kernel), List.mem_of_getElem? (i := 927) (by decide +kernel)⟩
theorem lw_p30 : lw_okq (⟨"MarkedHandsModel", "lays", "()V"⟩, 41) := ⟨⟨by decide +kernel, by decide +kernel⟩, List.mem_of_getElem? (i := 767) (by decide +kernel), List.mem_of_getElem? (i := 938) (by decide +kernel), List.mem_of_getElem? (i := 939) (by decide +kernel)⟩
theorem lw_p31 : lw_okq (⟨"MarkedHandsModel", "bundles", "()V"⟩, 41) := ⟨⟨by decide +kernel, by decide +kernel⟩, List.mem_of_getElem? (i := 767) (by decide +kernel), List.mem_of_getElem? (i := 942) (by decide +kernel), List.mem_of_getElem? (i := 943) (by decide +kernel)⟩
def lw_privs_2 : List (MethodName × Nat) := [(⟨"MarkedHands$Laws", "failAt", "(I)Z"⟩, 7), (⟨"MarkedHands$Laws", "lookAtNumber", "()I"⟩, 7), (⟨"MarkedHands$Laws", "isFigure", "(I)Z"⟩, 7), (⟨"MarkedHands", "gradeWith", "(II)I"⟩, 12), (⟨"MarkedHands$Step", "take", "(ILMarkedHands$Balance;)V"⟩, 4), (⟨"MarkedHands$Ties", "cheapest", "(LMarkedHands$Balance;[I)I"⟩, 4), (⟨"MarkedHands$Ties", "join", "(II)V"⟩, 4), (⟨"MarkedHands", "laterLessEarlier", "(II)J"⟩, 12), (⟨"MarkedHands", "toldBefore", "(II)I"⟩, 12), (⟨"MarkedHands$Agreement", "deals", "(III)I"⟩, 7), (⟨"MarkedHands$Agreement", "gain", "(II)I"⟩, 7), (⟨"MarkedHandsModel", "tells", "(IIII)I"⟩, 41), (⟨"MarkedHandsModel", "lastTime", "()I"⟩, 41), (⟨"MarkedHandsModel", "meets", "(I)I"⟩, 41), (⟨"MarkedHandsModel", "lays", "()V"⟩, 41), (⟨"MarkedHandsModel", "bundles", "()V"⟩, 41)]
theorem lw_r2 : ∀ q ∈ lw_privs_2, lw_okq q := List.forall_mem_cons.mpr ⟨lw_p16, List.forall_mem_cons.mpr ⟨lw_p17, List.forall_mem_cons.mpr ⟨lw_p18, List.forall_mem_cons.mpr ⟨lw_p19, List.forall_mem_cons.mpr ⟨lw_p20, List.forall_mem_cons.mpr ⟨lw_p21, List.forall_mem_cons.mpr ⟨lw_p22, List.forall_mem_cons.mpr ⟨lw_p23, List.forall_mem_cons.mpr ⟨lw_p24, List.forall_mem_cons.mpr ⟨lw_p25, List.forall_mem_cons.mpr ⟨lw_p26, List.forall_mem_cons.mpr ⟨lw_p27, List.forall_mem_cons.mpr ⟨lw_p28, List.forall_mem_cons.mpr ⟨lw_p29, List.forall_mem_cons.mpr ⟨lw_p30, List.forall_mem_cons.mpr ⟨lw_p31, fun _ h => absurd h List.not_mem_nil⟩⟩⟩⟩⟩⟩⟩⟩⟩⟩⟩⟩⟩⟩⟩⟩
theorem lw_p32 : lw_okq (⟨"MarkedHandsModel", "hasNow", "(II)I"⟩, 41) := ⟨⟨by decide +kernel, by decide +kernel⟩, List.mem_of_getElem? (i := 767) (by decide +kernel), List.mem_of_getElem? (i := 946) (by decide +kernel), List.mem_of_getElem? (i := 947) (by decide +kernel)⟩
theorem lw_p33 : lw_okq (⟨"MarkedHandsModel", "hardTold", "(II)J"⟩, 41) := ⟨⟨by decide +kernel, by decide +kernel⟩, List.mem_of_getElem? (i := 767) (by decide +kernel), List.mem_of_getElem? (i := 962) (by decide +kernel), List.mem_of_getElem? (i := 963) (by decide +kernel)⟩
theorem lw_p34 : lw_okq (⟨"MarkedHandsModel", "works", "(I)V"⟩, 41) := ⟨⟨by decide +kernel, by decide +kernel⟩, List.mem_of_getElem? (i := 767) (by decide +kernel), List.mem_of_getElem? (i := 966) (by decide +kernel), List.mem_of_getElem? (i := 967) (by decide +kernel)⟩
theorem lw_p35 : lw_okq (⟨"MarkedHandsModel", "marksOfScript", "(I)I"⟩, 41) := ⟨⟨by decide +kernel, by decide +kernel⟩, List.mem_of_getElem? (i := 767) (by decide +kernel), List.mem_of_getElem? (i := 971) (by decide +kernel), List.mem_of_getElem? (i := 972) (by decide +kernel)⟩
theorem lw_p36 : lw_okq (⟨"MarkedHandsModel", "marksSum", "(I)I"⟩, 41) := ⟨⟨by decide +kernel, by decide +kernel⟩, List.mem_of_getElem? (i := 767) (by decide +kernel), List.mem_of_getElem? (i := 975) (by decide +kernel), List.mem_of_getElem? (i := 976) (by decide +kernel)⟩
theorem lw_p37 : lw_okq (⟨"MarkedHandsModel", "solves", "(I)V"⟩, 41) := ⟨⟨by decide +kernel, by decide +kernel⟩, List.mem_of_getElem? (i := 767) (by decide +kernel), List.mem_of_getElem? (i := 979) (by decide +kernel), List.mem_of_getElem? (i := 980) (by decide +kernel)⟩
theorem lw_p38 : lw_okq (⟨"MarkedHandsModel", "clears", "(I)V"⟩, 41) := ⟨⟨by decide +kernel, by decide +kernel⟩, List.mem_of_getElem? (i := 767) (by decide +kernel), List.mem_of_getElem? (i := 983) (by decide +kernel), List.mem_of_getElem? (i := 984) (by decide +kernel)⟩
theorem lw_p39 : lw_okq (⟨"MarkedHandsModel", "worthTold", "(II)J"⟩, 41) := ⟨⟨by decide +kernel, by decide +kernel⟩, List.mem_of_getElem? (i := 767) (by decide +kernel), List.mem_of_getElem? (i := 1000) (by decide +kernel), List.mem_of_getElem? (i := 1001) (by decide +kernel)⟩
theorem lw_p40 : lw_okq (⟨"MarkedHandsModel", "fitOf", "(II)J"⟩, 41) := ⟨⟨by decide +kernel, by decide +kernel⟩, List.mem_of_getElem? (i := 767) (by decide +kernel), List.mem_of_getElem? (i := 1008) (by decide +kernel), List.mem_of_getElem? (i := 1009) (by decide +kernel)⟩
theorem lw_p41 : lw_okq (⟨"MarkedHandsModel", "isBundle", "(I)Z"⟩, 41) := ⟨⟨by decide +kernel, by decide +kernel⟩, List.mem_of_getElem? (i := 767) (by decide +kernel), List.mem_of_getElem? (i := 1016) (by decide +kernel), List.mem_of_getElem? (i := 1017) (by decide +kernel)⟩
theorem lw_p42 : lw_okq (⟨"MarkedHandsModel", "offOf", "(I)J"⟩, 41) := ⟨⟨by decide +kernel, by decide +kernel⟩, List.mem_of_getElem? (i := 767) (by decide +kernel), List.mem_of_getElem? (i := 1020) (by decide +kernel), List.mem_of_getElem? (i := 1021) (by decide +kernel)⟩
theorem lw_p43 : lw_okq (⟨"MarkedHandsModel", "faultNow", "()I"⟩, 41) := ⟨⟨by decide +kernel, by decide +kernel⟩, List.mem_of_getElem? (i := 767) (by decide +kernel), List.mem_of_getElem? (i := 1040) (by decide +kernel), List.mem_of_getElem? (i := 1041) (by decide +kernel)⟩
theorem lw_p44 : lw_okq (⟨"MarkedHandsModel", "part", "()V"⟩, 41) := ⟨⟨by decide +kernel, by decide +kernel⟩, List.mem_of_getElem? (i := 767) (by decide +kernel), List.mem_of_getElem? (i := 1044) (by decide +kernel), List.mem_of_getElem? (i := 1045) (by decide +kernel)⟩
theorem lw_p45 : lw_okq (⟨"MarkedHandsModel", "byteNow", "()I"⟩, 41) := ⟨⟨by decide +kernel, by decide +kernel⟩, List.mem_of_getElem? (i := 767) (by decide +kernel), List.mem_of_getElem? (i := 1048) (by decide +kernel), List.mem_of_getElem? (i := 1049) (by decide +kernel)⟩
theorem lw_p46 : lw_okq (⟨"MarkedHandsModel", "isFigure", "()Z"⟩, 41) := ⟨⟨by decide +kernel, by decide +kernel⟩, List.mem_of_getElem? (i := 767) (by decide +kernel), List.mem_of_getElem? (i := 1052) (by decide +kernel), List.mem_of_getElem? (i := 1053) (by decide +kernel)⟩
theorem lw_p47 : lw_okq (⟨"MarkedHandsModel", "gradeBy", "(JJI)I"⟩, 41) := ⟨⟨by decide +kernel, by decide +kernel⟩, List.mem_of_getElem? (i := 767) (by decide +kernel), List.mem_of_getElem? (i := 1060) (by decide +kernel), List.mem_of_getElem? (i := 1061) (by decide +kernel)⟩
def lw_privs_3 : List (MethodName × Nat) := [(⟨"MarkedHandsModel", "hasNow", "(II)I"⟩, 41), (⟨"MarkedHandsModel", "hardTold", "(II)J"⟩, 41), (⟨"MarkedHandsModel", "works", "(I)V"⟩, 41), (⟨"MarkedHandsModel", "marksOfScript", "(I)I"⟩, 41), (⟨"MarkedHandsModel", "marksSum", "(I)I"⟩, 41), (⟨"MarkedHandsModel", "solves", "(I)V"⟩, 41), (⟨"MarkedHandsModel", "clears", "(I)V"⟩, 41), (⟨"MarkedHandsModel", "worthTold", "(II)J"⟩, 41), (⟨"MarkedHandsModel", "fitOf", "(II)J"⟩, 41), (⟨"MarkedHandsModel", "isBundle", "(I)Z"⟩, 41), (⟨"MarkedHandsModel", "offOf", "(I)J"⟩, 41), (⟨"MarkedHandsModel", "faultNow", "()I"⟩, 41), (⟨"MarkedHandsModel", "part", "()V"⟩, 41), (⟨"MarkedHandsModel", "byteNow", "()I"⟩, 41), (⟨"MarkedHandsModel", "isFigure", "()Z"⟩, 41), (⟨"MarkedHandsModel", "gradeBy", "(JJI)I"⟩, 41)]
theorem lw_r3 : ∀ q ∈ lw_privs_3, lw_okq q := List.forall_mem_cons.mpr ⟨lw_p32, List.forall_mem_cons.mpr ⟨lw_p33, List.forall_mem_cons.mpr ⟨lw_p34, List.forall_mem_cons.mpr ⟨lw_p35, List.forall_mem_cons.mpr ⟨lw_p36, List.forall_mem_cons.mpr ⟨lw_p37, List.forall_mem_cons.mpr ⟨lw_p38, List.forall_mem_cons.mpr ⟨lw_p39, List.forall_mem_cons.mpr ⟨lw_p40, List.forall_mem_cons.mpr ⟨lw_p41, List.forall_mem_cons.mpr ⟨lw_p42, List.forall_mem_cons.mpr ⟨lw_p43, List.forall_mem_cons.mpr ⟨lw_p44, List.forall_mem_cons.mpr ⟨lw_p45, List.forall_mem_cons.mpr ⟨lw_p46, List.forall_mem_cons.mpr ⟨lw_p47, fun _ h => absurd h List.not_mem_nil⟩⟩⟩⟩⟩⟩⟩⟩⟩⟩⟩⟩⟩⟩⟩⟩
theorem lw_p48 : lw_okq (⟨"MarkedHandsModel", "gradeByMean", "(I)I"⟩, 41) := ⟨⟨by decide +kernel, by decide +kernel⟩, List.mem_of_getElem? (i := 767) (by decide +kernel), List.mem_of_getElem? (i := 1069) (by decide +kernel), List.mem_of_getElem? (i := 1070) (by decide +kernel)⟩
theorem lw_p49 : lw_okq (⟨"MarkedHandsModel", "doubts", "(II)V"⟩, 41) := ⟨⟨by decide +kernel, by decide +kernel⟩, List.mem_of_getElem? (i := 767) (by decide +kernel), List.mem_of_getElem? (i := 1081) (by decide +kernel), List.mem_of_getElem? (i := 1082) (by decide +kernel)⟩
theorem lw_p50 : lw_okq (⟨"MarkedHandsModel", "worstTold", "(I)J"⟩, 41) := ⟨⟨by decide +kernel, by decide +kernel⟩, List.mem_of_getElem? (i := 767) (by decide +kernel), List.mem_of_getElem? (i := 1089) (by decide +kernel), List.mem_of_getElem? (i := 1090) (by decide +kernel)⟩
theorem lw_p51 : lw_okq (⟨"MarkedHandsModel", "worsts", "()Z"⟩, 41) := ⟨⟨by decide +kernel, by decide +kernel⟩, List.mem_of_getElem? (i := 767) (by decide +kernel), List.mem_of_getElem? (i := 1093) (by decide +kernel), List.mem_of_getElem? (i := 1094) (by decide +kernel)⟩
theorem lw_p52 : lw_okq (⟨"MarkedHandsModel", "isBridge", "(I)Z"⟩, 41) := ⟨⟨by decide +kernel, by decide +kernel⟩, List.mem_of_getElem? (i := 767) (by decide +kernel), List.mem_of_getElem? (i := 1105) (by decide +kernel), List.mem_of_getElem? (i := 1106) (by decide +kernel)⟩
theorem lw_p53 : lw_okq (⟨"MarkedHandsModel", "agrees", "()I"⟩, 41) := ⟨⟨by decide +kernel, by decide +kernel⟩, List.mem_of_getElem? (i := 767) (by decide +kernel), List.mem_of_getElem? (i := 1125) (by decide +kernel), List.mem_of_getElem? (i := 1126) (by decide +kernel)⟩
theorem lw_p54 : lw_okq (⟨"MarkedHandsModel", "turns", "()Z"⟩, 41) := ⟨⟨by decide +kernel, by decide +kernel⟩, List.mem_of_getElem? (i := 767) (by decide +kernel), List.mem_of_getElem? (i := 1132) (by decide +kernel), List.mem_of_getElem? (i := 1133) (by decide +kernel)⟩
theorem lw_p55 : lw_okq (⟨"MarkedHandsModel", "oddNow", "()I"⟩, 41) := ⟨⟨by decide +kernel, by decide +kernel⟩, List.mem_of_getElem? (i := 767) (by decide +kernel), List.mem_of_getElem? (i := 1141) (by decide +kernel), List.mem_of_getElem? (i := 1142) (by decide +kernel)⟩
theorem lw_p56 : lw_okq (⟨"MarkedHandsModel", "lacks", "(III)I"⟩, 41) := ⟨⟨by decide +kernel, by decide +kernel⟩, List.mem_of_getElem? (i := 767) (by decide +kernel), List.mem_of_getElem? (i := 1161) (by decide +kernel), List.mem_of_getElem? (i := 1162) (by decide +kernel)⟩
theorem lw_p57 : lw_okq (⟨"MarkedHandsModel", "lay", "(III)V"⟩, 41) := ⟨⟨by decide +kernel, by decide +kernel⟩, List.mem_of_getElem? (i := 767) (by decide +kernel), List.mem_of_getElem? (i := 1165) (by decide +kernel), List.mem_of_getElem? (i := 1166) (by decide +kernel)⟩
theorem lw_p58 : lw_okq (⟨"MarkedHandsModel", "countNow", "(I)I"⟩, 41) := ⟨⟨by decide +kernel, by decide +kernel⟩, List.mem_of_getElem? (i := 767) (by decide +kernel), List.mem_of_getElem? (i := 1186) (by decide +kernel), List.mem_of_getElem? (i := 1187) (by decide +kernel)⟩
theorem lw_p59 : lw_okq (⟨"MarkedHandsModel", "bundleMany", "()I"⟩, 41) := ⟨⟨by decide +kernel, by decide +kernel⟩, List.mem_of_getElem? (i := 767) (by decide +kernel), List.mem_of_getElem? (i := 1190) (by decide +kernel), List.mem_of_getElem? (i := 1191) (by decide +kernel)⟩
def lw_privs_4 : List (MethodName × Nat) := [(⟨"MarkedHandsModel", "gradeByMean", "(I)I"⟩, 41), (⟨"MarkedHandsModel", "doubts", "(II)V"⟩, 41), (⟨"MarkedHandsModel", "worstTold", "(I)J"⟩, 41), (⟨"MarkedHandsModel", "worsts", "()Z"⟩, 41), (⟨"MarkedHandsModel", "isBridge", "(I)Z"⟩, 41), (⟨"MarkedHandsModel", "agrees", "()I"⟩, 41), (⟨"MarkedHandsModel", "turns", "()Z"⟩, 41), (⟨"MarkedHandsModel", "oddNow", "()I"⟩, 41), (⟨"MarkedHandsModel", "lacks", "(III)I"⟩, 41), (⟨"MarkedHandsModel", "lay", "(III)V"⟩, 41), (⟨"MarkedHandsModel", "countNow", "(I)I"⟩, 41), (⟨"MarkedHandsModel", "bundleMany", "()I"⟩, 41)]
theorem lw_r4 : ∀ q ∈ lw_privs_4, lw_okq q := List.forall_mem_cons.mpr ⟨lw_p48, List.forall_mem_cons.mpr ⟨lw_p49, List.forall_mem_cons.mpr ⟨lw_p50, List.forall_mem_cons.mpr ⟨lw_p51, List.forall_mem_cons.mpr ⟨lw_p52, List.forall_mem_cons.mpr ⟨lw_p53, List.forall_mem_cons.mpr ⟨lw_p54, List.forall_mem_cons.mpr ⟨lw_p55, List.forall_mem_cons.mpr ⟨lw_p56, List.forall_mem_cons.mpr ⟨lw_p57, List.forall_mem_cons.mpr ⟨lw_p58, List.forall_mem_cons.mpr ⟨lw_p59, fun _ h => absurd h List.not_mem_nil⟩⟩⟩⟩⟩⟩⟩⟩⟩⟩⟩⟩
def lw_privs : List (MethodName × Nat) := lw_privs_1 ++ (lw_privs_2 ++ (lw_privs_3 ++ (lw_privs_4)))
def lw_tbl : List Cond := k2_sels lw_privs ++ tables_1
theorem lw_privs_ok : ∀ q ∈ lw_privs, lw_okq q := by
  show ∀ q ∈ lw_privs_1 ++ (lw_privs_2 ++ (lw_privs_3 ++ (lw_privs_4))), lw_okq q
  exact List.forall_mem_append.mpr ⟨lw_r1, List.forall_mem_append.mpr ⟨lw_r2, List.forall_mem_append.mpr ⟨lw_r3, lw_r4⟩⟩⟩
end
section
-- names of the classes, their fields in the order of the slots
def RX0 : String := "MarkedHands$Agreement"
def TX0 : u_T := fun k => match k with
  | 0 => ("MarkedHands$Agreement", "first", "[I", true)
  | 1 => ("MarkedHands$Agreement", "second", "[I", true)
  | 2 => ("MarkedHands$Agreement", "firstSigns", "[I", true)
  | 3 => ("MarkedHands$Agreement", "secondSigns", "[I", true)
  | 4 => ("MarkedHands$Agreement", "dealt", "[I", true)
  | 5 => ("MarkedHands$Agreement", "length", "I", false)
  | _ => ("MarkedHands$Agreement", "least", "I", false)
def tyX0 : Nat → FieldType := fun k => match k with
  | 0 => .array .int
  | 1 => .array .int
  | 2 => .array .int
  | 3 => .array .int
  | 4 => .array .int
  | 5 => .int
  | _ => .int
theorem nmX0 : ∀ a, a < 7 → ∀ b, b < 7 → a ≠ b → (TX0 a).2.1 ≠ (TX0 b).2.1 := by decide +kernel
theorem tyX0_ok : ∀ k, k < 7 → parseFieldDescriptor (TX0 k).2.2.1 = some (tyX0 k) := by decide +kernel
def RX1 : String := "MarkedHands$Balance"
def TX1 : u_T := fun k => match k with
  | 0 => ("MarkedHands$Balance", "cells", "[I", true)
  | 1 => ("MarkedHands$Balance", "hands", "[I", true)
  | 2 => ("MarkedHands$Balance", "shares", "[J", true)
  | 3 => ("MarkedHands$Balance", "reach", "[I", true)
  | 4 => ("MarkedHands$Balance", "markerBundle", "[I", true)
  | 5 => ("MarkedHands$Balance", "scriptBundle", "[I", true)
  | 6 => ("MarkedHands$Balance", "rows", "[J", true)
  | 7 => ("MarkedHands$Balance", "adjugate", "[J", true)
  | 8 => ("MarkedHands$Balance", "pull", "[J", true)
  | 9 => ("MarkedHands$Balance", "hardness", "[J", true)
  | 10 => ("MarkedHands$Balance", "worths", "[J", true)
  | 11 => ("MarkedHands$Balance", "whole", "J", false)
  | 12 => ("MarkedHands$Balance", "free", "I", false)
  | 13 => ("MarkedHands$Balance", "worstDoubt", "J", false)
  | 14 => ("MarkedHands$Balance", "worstFirst", "I", false)
  | 15 => ("MarkedHands$Balance", "worstSecond", "I", false)
  | _ => ("MarkedHands$Balance", "worstKnown", "Z", false)
def tyX1 : Nat → FieldType := fun k => match k with
  | 0 => .array .int
  | 1 => .array .int
  | 2 => .array .long
  | 3 => .array .int
  | 4 => .array .int
  | 5 => .array .int
  | 6 => .array .long
  | 7 => .array .long
  | 8 => .array .long
  | 9 => .array .long
  | 10 => .array .long
  | 11 => .long
  | 12 => .int
  | 13 => .long
  | 14 => .int
  | 15 => .int
  | _ => .boolean
theorem nmX1 : ∀ a, a < 17 → ∀ b, b < 17 → a ≠ b → (TX1 a).2.1 ≠ (TX1 b).2.1 := by decide +kernel
theorem tyX1_ok : ∀ k, k < 17 → parseFieldDescriptor (TX1 k).2.2.1 = some (tyX1 k) := by decide +kernel
def RX2 : String := "MarkedHands$Laws"
def TX2 : u_T := fun k => match k with
  | 0 => ("MarkedHands$Laws", "text", "[I", true)
  | 1 => ("MarkedHands$Laws", "letters", "[I", true)
  | 2 => ("MarkedHands$Laws", "floors", "[I", true)
  | 3 => ("MarkedHands$Laws", "length", "I", false)
  | 4 => ("MarkedHands$Laws", "parts", "I", false)
  | 5 => ("MarkedHands$Laws", "at", "I", false)
  | _ => ("MarkedHands$Laws", "faultAt", "I", false)
def tyX2 : Nat → FieldType := fun k => match k with
  | 0 => .array .int
  | 1 => .array .int
  | 2 => .array .int
  | 3 => .int
  | 4 => .int
  | 5 => .int
  | _ => .int
theorem nmX2 : ∀ a, a < 7 → ∀ b, b < 7 → a ≠ b → (TX2 a).2.1 ≠ (TX2 b).2.1 := by decide +kernel
theorem tyX2_ok : ∀ k, k < 7 → parseFieldDescriptor (TX2 k).2.2.1 = some (tyX2 k) := by decide +kernel
def RX3 : String := "MarkedHands$Sheets"
def TX3 : u_T := fun k => match k with
  | 0 => ("MarkedHands$Sheets", "items", "[I", true)
  | 1 => ("MarkedHands$Sheets", "types", "[I", true)
  | _ => ("MarkedHands$Sheets", "sizes", "[I", true)
def tyX3 : Nat → FieldType := fun k => match k with
  | 0 => .array .int
  | 1 => .array .int
  | _ => .array .int
theorem nmX3 : ∀ a, a < 3 → ∀ b, b < 3 → a ≠ b → (TX3 a).2.1 ≠ (TX3 b).2.1 := by decide +kernel
theorem tyX3_ok : ∀ k, k < 3 → parseFieldDescriptor (TX3 k).2.2.1 = some (tyX3 k) := by decide +kernel
def RX4 : String := "MarkedHands$Step"
def TX4 : u_T := fun k => match k with
  | 0 => ("MarkedHands$Step", "known", "Z", false)
  | 1 => ("MarkedHands$Step", "cell", "I", false)
  | 2 => ("MarkedHands$Step", "doubt", "J", false)
  | _ => ("MarkedHands$Step", "below", "J", false)
def tyX4 : Nat → FieldType := fun k => match k with
  | 0 => .boolean
  | 1 => .int
  | 2 => .long
  | _ => .long
theorem nmX4 : ∀ a, a < 4 → ∀ b, b < 4 → a ≠ b → (TX4 a).2.1 ≠ (TX4 b).2.1 := by decide +kernel
theorem tyX4_ok : ∀ k, k < 4 → parseFieldDescriptor (TX4 k).2.2.1 = some (tyX4 k) := by decide +kernel
def RX5 : String := "MarkedHands$Tellings"
def TX5 : u_T := fun k => match k with
  | 0 => ("MarkedHands$Tellings", "cell", "[I", true)
  | 1 => ("MarkedHands$Tellings", "value", "[I", true)
  | 2 => ("MarkedHands$Tellings", "time", "[I", true)
  | 3 => ("MarkedHands$Tellings", "told", "I", false)
  | 4 => ("MarkedHands$Tellings", "latest", "I", false)
  | _ => ("MarkedHands$Tellings", "until", "I", false)
def tyX5 : Nat → FieldType := fun k => match k with
  | 0 => .array .int
  | 1 => .array .int
  | 2 => .array .int
  | 3 => .int
  | 4 => .int
  | _ => .int
theorem nmX5 : ∀ a, a < 6 → ∀ b, b < 6 → a ≠ b → (TX5 a).2.1 ≠ (TX5 b).2.1 := by decide +kernel
theorem tyX5_ok : ∀ k, k < 6 → parseFieldDescriptor (TX5 k).2.2.1 = some (tyX5 k) := by decide +kernel
def RX6 : String := "MarkedHands$Ties"
def TX6 : u_T := fun k => match k with
  | 0 => ("MarkedHands$Ties", "group", "[I", true)
  | 1 => ("MarkedHands$Ties", "picks", "[I", true)
  | 2 => ("MarkedHands$Ties", "length", "I", false)
  | _ => ("MarkedHands$Ties", "cost", "I", false)
def tyX6 : Nat → FieldType := fun k => match k with
  | 0 => .array .int
  | 1 => .array .int
  | 2 => .int
  | _ => .int
theorem nmX6 : ∀ a, a < 4 → ∀ b, b < 4 → a ≠ b → (TX6 a).2.1 ≠ (TX6 b).2.1 := by decide +kernel
theorem tyX6_ok : ∀ k, k < 4 → parseFieldDescriptor (TX6 k).2.2.1 = some (tyX6 k) := by decide +kernel
def RX7 : String := "MarkedHands"
def TX7 : u_T := fun k => match k with
  | 0 => ("MarkedHands", "tellings", "LMarkedHands$Tellings;", true)
  | 1 => ("MarkedHands", "now", "LMarkedHands$Balance;", true)
  | 2 => ("MarkedHands", "trial", "LMarkedHands$Balance;", true)
  | 3 => ("MarkedHands", "step", "LMarkedHands$Step;", true)
  | 4 => ("MarkedHands", "ties", "LMarkedHands$Ties;", true)
  | 5 => ("MarkedHands", "agreement", "LMarkedHands$Agreement;", true)
  | 6 => ("MarkedHands", "laws", "LMarkedHands$Laws;", true)
  | 7 => ("MarkedHands", "sheets", "LMarkedHands$Sheets;", true)
  | 8 => ("MarkedHands", "order", "[I", true)
  | 9 => ("MarkedHands", "prices", "[I", true)
  | 10 => ("MarkedHands", "stale", "Z", false)
  | _ => ("MarkedHands", "finding", "I", false)
def tyX7 : Nat → FieldType := fun k => match k with
  | 0 => .object "MarkedHands$Tellings"
  | 1 => .object "MarkedHands$Balance"
  | 2 => .object "MarkedHands$Balance"
  | 3 => .object "MarkedHands$Step"
  | 4 => .object "MarkedHands$Ties"
  | 5 => .object "MarkedHands$Agreement"
  | 6 => .object "MarkedHands$Laws"
  | 7 => .object "MarkedHands$Sheets"
  | 8 => .array .int
  | 9 => .array .int
  | 10 => .boolean
  | _ => .int
theorem nmX7 : ∀ a, a < 12 → ∀ b, b < 12 → a ≠ b → (TX7 a).2.1 ≠ (TX7 b).2.1 := by decide +kernel
theorem tyX7_ok : ∀ k, k < 12 → parseFieldDescriptor (TX7 k).2.2.1 = some (tyX7 k) := by decide +kernel
def RX8 : String := "MarkedHandsModel"
def TX8 : u_T := fun k => match k with
  | 0 => ("MarkedHandsModel", "told", "I", false)
  | 1 => ("MarkedHandsModel", "toldScript", "[I", true)
  | 2 => ("MarkedHandsModel", "toldMarker", "[I", true)
  | 3 => ("MarkedHandsModel", "toldMark", "[I", true)
  | 4 => ("MarkedHandsModel", "toldTime", "[I", true)
  | 5 => ("MarkedHandsModel", "knownTo", "I", false)
  | 6 => ("MarkedHandsModel", "priceOf", "[I", true)
  | 7 => ("MarkedHandsModel", "now", "[I", true)
  | 8 => ("MarkedHandsModel", "when", "[I", true)
  | 9 => ("MarkedHandsModel", "bundleOf", "[I", true)
  | 10 => ("MarkedHandsModel", "among", "[I", true)
  | 11 => ("MarkedHandsModel", "table", "[J", true)
  | 12 => ("MarkedHandsModel", "fed", "[J", true)
  | 13 => ("MarkedHandsModel", "level", "[J", true)
  | 14 => ("MarkedHandsModel", "over", "J", false)
  | 15 => ("MarkedHandsModel", "hardOf", "[J", true)
  | 16 => ("MarkedHandsModel", "worthOf", "[J", true)
  | 17 => ("MarkedHandsModel", "whole", "J", false)
  | 18 => ("MarkedHandsModel", "typed", "I", false)
  | 19 => ("MarkedHandsModel", "text", "[I", true)
  | 20 => ("MarkedHandsModel", "at", "I", false)
  | 21 => ("MarkedHandsModel", "fault", "I", false)
  | 22 => ("MarkedHandsModel", "parts", "I", false)
  | 23 => ("MarkedHandsModel", "partLetter", "[I", true)
  | 24 => ("MarkedHandsModel", "partTenths", "[I", true)
  | 25 => ("MarkedHandsModel", "doubtTop", "J", false)
  | 26 => ("MarkedHandsModel", "doubtBottom", "J", false)
  | 27 => ("MarkedHandsModel", "worstTop", "J", false)
  | 28 => ("MarkedHandsModel", "worstBottom", "J", false)
  | 29 => ("MarkedHandsModel", "worstOne", "I", false)
  | 30 => ("MarkedHandsModel", "worstTwo", "I", false)
  | 31 => ("MarkedHandsModel", "pairs", "I", false)
  | 32 => ("MarkedHandsModel", "pairOne", "[I", true)
  | 33 => ("MarkedHandsModel", "pairTwo", "[I", true)
  | 34 => ("MarkedHandsModel", "order", "[I", true)
  | 35 => ("MarkedHandsModel", "isThere", "[Z", true)
  | 36 => ("MarkedHandsModel", "types", "[I", true)
  | 37 => ("MarkedHandsModel", "sizes", "[I", true)
  | 38 => ("MarkedHandsModel", "items", "[I", true)
  | 39 => ("MarkedHandsModel", "moved", "[I", true)
  | _ => ("MarkedHandsModel", "finding", "I", false)
def tyX8 : Nat → FieldType := fun k => match k with
  | 0 => .int
  | 1 => .array .int
  | 2 => .array .int
  | 3 => .array .int
  | 4 => .array .int
  | 5 => .int
  | 6 => .array .int
  | 7 => .array .int
  | 8 => .array .int
  | 9 => .array .int
  | 10 => .array .int
  | 11 => .array .long
  | 12 => .array .long
  | 13 => .array .long
  | 14 => .long
  | 15 => .array .long
  | 16 => .array .long
  | 17 => .long
  | 18 => .int
  | 19 => .array .int
  | 20 => .int
  | 21 => .int
  | 22 => .int
  | 23 => .array .int
  | 24 => .array .int
  | 25 => .long
  | 26 => .long
  | 27 => .long
  | 28 => .long
  | 29 => .int
  | 30 => .int
  | 31 => .int
  | 32 => .array .int
  | 33 => .array .int
  | 34 => .array .int
  | 35 => .array .boolean
  | 36 => .array .int
  | 37 => .array .int
  | 38 => .array .int
  | 39 => .array .int
  | _ => .int
theorem nmX8 : ∀ a, a < 41 → ∀ b, b < 41 → a ≠ b → (TX8 a).2.1 ≠ (TX8 b).2.1 := by decide +kernel
theorem tyX8_ok : ∀ k, k < 41 → parseFieldDescriptor (TX8 k).2.2.1 = some (tyX8 k) := by decide +kernel
def RJ6 : String := "java/lang/Integer"
def RJ9 : String := "java/lang/Math"
def RJ10 : String := "java/lang/System"
def RL : String := "MarkedHandsLaw"
abbrev vwCl : List vw_C := [(RX0, TX0, 7), (RX1, TX1, 17), (RX2, TX2, 7), (RX3, TX3, 3), (RX4, TX4, 4), (RX5, TX5, 6), (RX6, TX6, 4), (RX7, TX7, 12), (RX8, TX8, 41)]
/-- kinds of the fields: 0 int, 1 boolean, 2 long, 3 a reference -/
def ab_cls : List (List Nat) := [[3, 3, 3, 3, 3, 0, 0], [3, 3, 3, 3, 3, 3, 3, 3, 3, 3, 3, 2, 0, 2, 0, 0, 1], [3, 3, 3, 0, 0, 0, 0], [3, 3, 3], [1, 0, 2, 2], [3, 3, 3, 0, 0, 0], [3, 3, 0, 0], [3, 3, 3, 3, 3, 3, 3, 3, 3, 3, 1, 0], [0, 3, 3, 3, 3, 0, 3, 3, 3, 3, 3, 3, 3, 3, 2, 3, 3, 2, 0, 3, 0, 0, 0, 3, 3, 2, 2, 2, 2, 0, 0, 0, 3, 3, 3, 3, 3, 3, 3, 3, 0]]
/-- the methods: name, code, size of the locals, answer, how many parameters, static, rank (a caller is above its callees), class of the pool -/
abbrev ab_MR : Type := MethodName × ByteArray × Nat × Option FieldType × Nat × Bool × Nat × String
def ab_ms0 : List ab_MR := [(⟨RX0, "<init>", "()V"⟩, prog_2_method_1_code, 1, none, 0, false, 1, RX0), (⟨RX0, "gather", "(LMarkedHands$Balance;II)V"⟩, prog_2_method_2_code, 7, none, 3, false, 1, RX0), (⟨RX0, "score", "()I"⟩, prog_2_method_3_code, 4, (some .int), 0, false, 2, RX0), (⟨RX0, "millionths", "()I"⟩, prog_2_method_4_code, 5, (some .int), 0, false, 10, RX0), (⟨RX0, "deals", "(III)I"⟩, prog_2_method_5_code, 6, (some .int), 3, false, 9, RX0), (⟨RX0, "deals", "(III)I"⟩, prog_2_method_5_code, 6, (some .int), 3, false, 8, RX0), (⟨RX0, "deals", "(III)I"⟩, prog_2_method_5_code, 6, (some .int), 3, false, 7, RX0), (⟨RX0, "deals", "(III)I"⟩, prog_2_method_5_code, 6, (some .int), 3, false, 6, RX0), (⟨RX0, "deals", "(III)I"⟩, prog_2_method_5_code, 6, (some .int), 3, false, 5, RX0), (⟨RX0, "deals", "(III)I"⟩, prog_2_method_5_code, 6, (some .int), 3, false, 4, RX0), (⟨RX0, "deals", "(III)I"⟩, prog_2_method_5_code, 6, (some .int), 3, false, 3, RX0), (⟨RX0, "deals", "(III)I"⟩, prog_2_method_5_code, 6, (some .int), 3, false, 2, RX0), (⟨RX0, "gain", "(II)I"⟩, prog_2_method_6_code, 5, (some .int), 2, false, 1, RX0), (⟨RX0, "sign", "(II)I"⟩, prog_2_method_7_code, 2, (some .int), 2, true, 1, RX0), (⟨RX1, "<init>", "()V"⟩, prog_3_method_1_code, 1, none, 0, false, 1, RX1), (⟨RX1, "below", "()J"⟩, prog_3_method_2_code, 1, (some .long), 0, false, 1, RX1), (⟨RX1, "copyWith", "(LMarkedHands$Balance;II)V"⟩, prog_3_method_3_code, 5, none, 3, false, 5, RX1), (⟨RX1, "tie", "()V"⟩, prog_3_method_4_code, 1, none, 0, false, 4, RX1), (⟨RX1, "findHands", "()V"⟩, prog_3_method_5_code, 4, none, 0, false, 2, RX1), (⟨RX1, "findReach", "()V"⟩, prog_3_method_6_code, 4, none, 0, false, 1, RX1), (⟨RX1, "findBundles", "()V"⟩, prog_3_method_7_code, 3, none, 0, false, 2, RX1), (⟨RX1, "layRows", "()V"⟩, prog_3_method_8_code, 4, none, 0, false, 3, RX1), (⟨RX1, "isFree", "(I)Z"⟩, prog_3_method_9_code, 2, (some .boolean), 1, false, 1, RX1), (⟨RX1, "push", "(II)J"⟩, prog_3_method_10_code, 3, (some .long), 2, false, 2, RX1), (⟨RX1, "isIn", "(II)Z"⟩, prog_3_method_11_code, 3, (some .boolean), 2, false, 1, RX1)]
def ab_ms1 : List ab_MR := [(⟨RX1, "invert", "()V"⟩, prog_3_method_12_code, 3, none, 0, false, 2, RX1), (⟨RX1, "cofactor", "(II)J"⟩, prog_3_method_13_code, 7, (some .long), 2, false, 1, RX1), (⟨RX1, "weigh", "()V"⟩, prog_3_method_14_code, 5, none, 0, false, 3, RX1), (⟨RX1, "findPull", "()V"⟩, prog_3_method_15_code, 3, none, 0, false, 2, RX1), (⟨RX1, "sumOf", "(I)J"⟩, prog_3_method_16_code, 5, (some .long), 1, false, 1, RX1), (⟨RX1, "fitOf", "(I)J"⟩, prog_3_method_17_code, 2, (some .long), 1, false, 1, RX1), (⟨RX1, "offAmong", "(I)J"⟩, prog_3_method_18_code, 5, (some .long), 1, false, 2, RX1), (⟨RX1, "areTied", "(II)Z"⟩, prog_3_method_19_code, 3, (some .boolean), 2, false, 1, RX1), (⟨RX1, "doubtOf", "(II)J"⟩, prog_3_method_20_code, 9, (some .long), 2, false, 3, RX1), (⟨RX1, "seekWorst", "()V"⟩, prog_3_method_21_code, 5, none, 0, false, 4, RX1), (⟨RX1, "isBridge", "(II)Z"⟩, prog_3_method_22_code, 6, (some .boolean), 2, false, 1, RX1), (⟨RX1, "bridges", "()I"⟩, prog_3_method_23_code, 3, (some .int), 0, false, 2, RX1), (⟨RX1, "bundles", "()I"⟩, prog_3_method_24_code, 3, (some .int), 0, false, 1, RX1), (⟨RX1, "marksOf", "(I)I"⟩, prog_3_method_25_code, 4, (some .int), 1, false, 1, RX1), (⟨RX1, "marksOfAll", "()I"⟩, prog_3_method_26_code, 3, (some .int), 0, false, 2, RX1), (⟨RX1, "markedScripts", "()I"⟩, prog_3_method_27_code, 3, (some .int), 0, false, 1, RX1), (⟨RX2, "<init>", "()V"⟩, prog_4_method_1_code, 1, none, 0, false, 1, RX2), (⟨RX2, "isFull", "()Z"⟩, prog_4_method_2_code, 1, (some .boolean), 0, false, 1, RX2), (⟨RX2, "add", "(I)V"⟩, prog_4_method_3_code, 2, none, 1, false, 6, RX2), (⟨RX2, "clear", "()I"⟩, prog_4_method_4_code, 2, (some .int), 0, false, 6, RX2), (⟨RX2, "look", "()V"⟩, prog_4_method_5_code, 3, none, 0, false, 5, RX2), (⟨RX2, "lookAtPart", "()Z"⟩, prog_4_method_6_code, 4, (some .boolean), 0, false, 4, RX2), (⟨RX2, "lookAtNumber", "()I"⟩, prog_4_method_7_code, 4, (some .int), 0, false, 3, RX2), (⟨RX2, "failAt", "(I)Z"⟩, prog_4_method_8_code, 2, (some .boolean), 1, false, 1, RX2), (⟨RX2, "isFigure", "(I)Z"⟩, prog_4_method_9_code, 2, (some .boolean), 1, false, 2, RX2)]
def ab_ms2 : List ab_MR := [(⟨RX2, "byteAt", "(I)I"⟩, prog_4_method_10_code, 2, (some .int), 1, false, 1, RX2), (⟨RX2, "letterFor", "(JJI)I"⟩, prog_4_method_11_code, 7, (some .int), 3, false, 1, RX2), (⟨RX3, "<init>", "()V"⟩, prog_5_method_1_code, 1, none, 0, false, 1, RX3), (⟨RX3, "isLost", "(I)Z"⟩, prog_5_method_2_code, 2, (some .boolean), 1, false, 1, RX3), (⟨RX3, "lay", "(III)V"⟩, prog_5_method_3_code, 5, none, 3, false, 1, RX3), (⟨RX3, "drop", "(I)V"⟩, prog_5_method_4_code, 2, none, 1, false, 1, RX3), (⟨RX3, "hindrance", "(III)I"⟩, prog_5_method_5_code, 4, (some .int), 3, false, 2, RX3), (⟨RX3, "hasRange", "(III)Z"⟩, prog_5_method_6_code, 4, (some .boolean), 3, false, 1, RX3), (⟨RX3, "item", "(II)I"⟩, prog_5_method_7_code, 3, (some .int), 2, false, 1, RX3), (⟨RX3, "store", "(III)V"⟩, prog_5_method_8_code, 4, none, 3, false, 2, RX3), (⟨RX3, "narrowed", "(II)I"⟩, prog_5_method_9_code, 2, (some .int), 2, true, 1, RX3), (⟨RX3, "move", "(IIIII)V"⟩, prog_5_method_10_code, 6, none, 5, false, 1, RX3), (⟨RX4, "<init>", "()V"⟩, prog_6_method_1_code, 1, none, 0, false, 1, RX4), (⟨RX4, "seek", "(LMarkedHands$Balance;LMarkedHands$Balance;)V"⟩, prog_6_method_2_code, 4, none, 2, false, 6, RX4), (⟨RX4, "isOpen", "(LMarkedHands$Balance;I)Z"⟩, prog_6_method_3_code, 5, (some .boolean), 2, true, 1, RX4), (⟨RX4, "take", "(ILMarkedHands$Balance;)V"⟩, prog_6_method_4_code, 3, none, 2, false, 2, RX4), (⟨RX5, "<init>", "()V"⟩, prog_7_method_1_code, 1, none, 0, false, 1, RX5), (⟨RX5, "mayCome", "(I)Z"⟩, prog_7_method_2_code, 2, (some .boolean), 1, false, 1, RX5), (⟨RX5, "isFull", "()Z"⟩, prog_7_method_3_code, 1, (some .boolean), 0, false, 1, RX5), (⟨RX5, "add", "(III)V"⟩, prog_7_method_4_code, 4, none, 3, false, 2, RX5), (⟨RX5, "lay", "([I[I)V"⟩, prog_7_method_5_code, 4, none, 2, false, 1, RX5), (⟨RX6, "<init>", "()V"⟩, prog_8_method_1_code, 1, none, 0, false, 1, RX6), (⟨RX6, "seek", "(LMarkedHands$Balance;[I)V"⟩, prog_8_method_2_code, 5, none, 2, false, 2, RX6), (⟨RX6, "cheapest", "(LMarkedHands$Balance;[I)I"⟩, prog_8_method_3_code, 7, (some .int), 2, false, 1, RX6), (⟨RX6, "join", "(II)V"⟩, prog_8_method_4_code, 4, none, 2, false, 1, RX6)]
def ab_ms3 : List ab_MR := [(⟨RX7, "<init>", "()V"⟩, prog_1_method_1_code, 1, none, 0, false, 2, RX7), (⟨RX7, "mark", "(IIII)I"⟩, prog_1_method_2_code, 5, (some .int), 4, false, 3, RX7), (⟨RX7, "read", "(II)I"⟩, prog_1_method_3_code, 7, (some .int), 2, false, 4, RX7), (⟨RX7, "asOf", "(I)I"⟩, prog_1_method_4_code, 3, (some .int), 1, false, 1, RX7), (⟨RX7, "has", "(II)I"⟩, prog_1_method_5_code, 3, (some .int), 2, false, 6, RX7), (⟨RX7, "bundle", "(II)I"⟩, prog_1_method_6_code, 4, (some .int), 2, false, 6, RX7), (⟨RX7, "hard", "(II)J"⟩, prog_1_method_7_code, 3, (some .long), 2, false, 6, RX7), (⟨RX7, "worth", "(II)J"⟩, prog_1_method_8_code, 3, (some .long), 2, false, 6, RX7), (⟨RX7, "fit", "(III)J"⟩, prog_1_method_9_code, 5, (some .long), 3, false, 6, RX7), (⟨RX7, "off", "(II)J"⟩, prog_1_method_10_code, 3, (some .long), 2, false, 6, RX7), (⟨RX7, "rank", "(II)I"⟩, prog_1_method_11_code, 5, (some .int), 2, false, 6, RX7), (⟨RX7, "type", "(I)I"⟩, prog_1_method_12_code, 2, (some .int), 1, false, 7, RX7), (⟨RX7, "wipe", "()I"⟩, prog_1_method_13_code, 1, (some .int), 0, false, 7, RX7), (⟨RX7, "fault", "()I"⟩, prog_1_method_14_code, 1, (some .int), 0, false, 1, RX7), (⟨RX7, "grade", "(I)I"⟩, prog_1_method_15_code, 2, (some .int), 1, false, 6, RX7), (⟨RX7, "hangs", "(I)I"⟩, prog_1_method_16_code, 4, (some .int), 1, false, 7, RX7), (⟨RX7, "misses", "(II)I"⟩, prog_1_method_17_code, 5, (some .int), 2, false, 6, RX7), (⟨RX7, "doubt", "(III)J"⟩, prog_1_method_18_code, 4, (some .long), 3, false, 6, RX7), (⟨RX7, "worst", "(I)J"⟩, prog_1_method_19_code, 2, (some .long), 1, false, 6, RX7), (⟨RX7, "next", "(I)J"⟩, prog_1_method_20_code, 2, (some .long), 1, false, 7, RX7), (⟨RX7, "bridge", "(II)I"⟩, prog_1_method_21_code, 3, (some .int), 2, false, 6, RX7), (⟨RX7, "price", "(II)I"⟩, prog_1_method_22_code, 4, (some .int), 2, false, 2, RX7), (⟨RX7, "tied", "(I)I"⟩, prog_1_method_23_code, 2, (some .int), 1, false, 6, RX7), (⟨RX7, "drift", "(II)J"⟩, prog_1_method_24_code, 4, (some .long), 2, false, 6, RX7), (⟨RX7, "agree", "(III)I"⟩, prog_1_method_25_code, 4, (some .int), 3, false, 11, RX7)]
def ab_ms4 : List ab_MR := [(⟨RX7, "odd", "()I"⟩, prog_1_method_26_code, 5, (some .int), 0, false, 6, RX7), (⟨RX7, "without", "(III)J"⟩, prog_1_method_27_code, 5, (some .long), 3, false, 6, RX7), (⟨RX7, "sheet", "(III)I"⟩, prog_1_method_28_code, 4, (some .int), 3, false, 2, RX7), (⟨RX7, "lose", "(I)I"⟩, prog_1_method_29_code, 3, (some .int), 1, false, 2, RX7), (⟨RX7, "put", "(IIII)I"⟩, prog_1_method_30_code, 6, (some .int), 4, false, 3, RX7), (⟨RX7, "get", "(III)I"⟩, prog_1_method_31_code, 5, (some .int), 3, false, 3, RX7), (⟨RX7, "copy", "(IIIII)I"⟩, prog_1_method_32_code, 6, (some .int), 5, false, 2, RX7), (⟨RX7, "write", "(II)I"⟩, prog_1_method_33_code, 5, (some .int), 2, false, 6, RX7), (⟨RX7, "count", "(I)I"⟩, prog_1_method_34_code, 2, (some .int), 1, false, 6, RX7), (⟨RX7, "digest", "()J"⟩, prog_1_method_35_code, 5, (some .long), 0, false, 7, RX7), (⟨RX7, "settle", "()V"⟩, prog_1_method_36_code, 1, none, 0, false, 5, RX7), (⟨RX7, "found", "(I)I"⟩, prog_1_method_37_code, 2, (some .int), 1, false, 1, RX7), (⟨RX7, "gradeWith", "(II)I"⟩, prog_1_method_38_code, 3, (some .int), 2, false, 2, RX7), (⟨RX7, "isAhead", "(III)Z"⟩, prog_1_method_39_code, 4, (some .boolean), 3, false, 2, RX7), (⟨RX7, "laterLessEarlier", "(II)J"⟩, prog_1_method_40_code, 8, (some .long), 2, false, 2, RX7), (⟨RX7, "toldBefore", "(II)I"⟩, prog_1_method_41_code, 5, (some .int), 2, false, 1, RX7), (⟨RX7, "isScript", "(I)Z"⟩, prog_1_method_42_code, 1, (some .boolean), 1, true, 1, RX7), (⟨RX7, "isMarker", "(I)Z"⟩, prog_1_method_43_code, 1, (some .boolean), 1, true, 1, RX7), (⟨RX7, "isSheet", "(I)Z"⟩, prog_1_method_44_code, 1, (some .boolean), 1, true, 1, RX7), (⟨RX7, "isType", "(I)Z"⟩, prog_1_method_45_code, 1, (some .boolean), 1, true, 1, RX7), (⟨RX7, "isSide", "(I)Z"⟩, prog_1_method_46_code, 1, (some .boolean), 1, true, 1, RX7), (⟨RX7, "asLong", "(I)J"⟩, prog_1_method_47_code, 1, (some .long), 1, true, 1, RX7), (⟨RX7, "side", "(JJI)J"⟩, prog_1_method_48_code, 7, (some .long), 3, true, 2, RX7), (⟨RX7, "commonDivisor", "(JJ)J"⟩, prog_1_method_49_code, 11, (some .long), 2, true, 1, RX7), (⟨RX7, "leastBit", "(I)I"⟩, prog_1_method_50_code, 2, (some .int), 1, true, 1, RX7)]
def ab_ms5 : List ab_MR := [(⟨RX8, "<init>", "()V"⟩, prog_10_method_1_code, 2, none, 0, false, 1, RX8), (⟨RX8, "in", "(III)Z"⟩, prog_10_method_3_code, 3, (some .boolean), 3, true, 1, RX8), (⟨RX8, "no", "(I)J"⟩, prog_10_method_4_code, 1, (some .long), 1, true, 1, RX8), (⟨RX8, "amount", "(J)J"⟩, prog_10_method_5_code, 2, (some .long), 1, true, 1, RX8), (⟨RX8, "divisor", "(JJ)J"⟩, prog_10_method_6_code, 10, (some .long), 2, true, 2, RX8), (⟨RX8, "lowest", "(JJI)J"⟩, prog_10_method_7_code, 7, (some .long), 3, true, 3, RX8), (⟨RX8, "isScript", "(I)Z"⟩, prog_10_method_8_code, 1, (some .boolean), 1, true, 2, RX8), (⟨RX8, "isMarker", "(I)Z"⟩, prog_10_method_9_code, 1, (some .boolean), 1, true, 2, RX8), (⟨RX8, "lastTime", "()I"⟩, prog_10_method_10_code, 1, (some .int), 0, false, 1, RX8), (⟨RX8, "tells", "(IIII)I"⟩, prog_10_method_11_code, 5, (some .int), 4, false, 3, RX8), (⟨RX8, "mark", "(IIII)I"⟩, prog_10_method_12_code, 5, (some .int), 4, false, 4, RX8), (⟨RX8, "read", "(II)I"⟩, prog_10_method_13_code, 4, (some .int), 2, false, 4, RX8), (⟨RX8, "asOf", "(I)I"⟩, prog_10_method_14_code, 3, (some .int), 1, false, 2, RX8), (⟨RX8, "lays", "()V"⟩, prog_10_method_15_code, 2, none, 0, false, 2, RX8), (⟨RX8, "bundles", "()V"⟩, prog_10_method_16_code, 6, none, 0, false, 1, RX8), (⟨RX8, "hasNow", "(II)I"⟩, prog_10_method_17_code, 3, (some .int), 2, false, 1, RX8), (⟨RX8, "has", "(II)I"⟩, prog_10_method_18_code, 3, (some .int), 2, false, 3, RX8), (⟨RX8, "bundle", "(II)I"⟩, prog_10_method_19_code, 3, (some .int), 2, false, 3, RX8), (⟨RX8, "marksOfScript", "(I)I"⟩, prog_10_method_20_code, 4, (some .int), 1, false, 2, RX8), (⟨RX8, "clears", "(I)V"⟩, prog_10_method_21_code, 7, none, 1, false, 1, RX8), (⟨RX8, "solves", "(I)V"⟩, prog_10_method_22_code, 8, none, 1, false, 3, RX8), (⟨RX8, "works", "(I)V"⟩, prog_10_method_23_code, 7, none, 1, false, 4, RX8), (⟨RX8, "marksSum", "(I)I"⟩, prog_10_method_24_code, 4, (some .int), 1, false, 2, RX8), (⟨RX8, "fitOf", "(II)J"⟩, prog_10_method_25_code, 3, (some .long), 2, false, 2, RX8), (⟨RX8, "hardTold", "(II)J"⟩, prog_10_method_26_code, 4, (some .long), 2, false, 5, RX8)]
def ab_ms6 : List ab_MR := [(⟨RX8, "hard", "(II)J"⟩, prog_10_method_27_code, 3, (some .long), 2, false, 6, RX8), (⟨RX8, "worthTold", "(II)J"⟩, prog_10_method_28_code, 4, (some .long), 2, false, 5, RX8), (⟨RX8, "worth", "(II)J"⟩, prog_10_method_29_code, 3, (some .long), 2, false, 6, RX8), (⟨RX8, "fit", "(III)J"⟩, prog_10_method_30_code, 4, (some .long), 3, false, 5, RX8), (⟨RX8, "isBundle", "(I)Z"⟩, prog_10_method_31_code, 2, (some .boolean), 1, false, 3, RX8), (⟨RX8, "offOf", "(I)J"⟩, prog_10_method_32_code, 5, (some .long), 1, false, 5, RX8), (⟨RX8, "off", "(II)J"⟩, prog_10_method_33_code, 3, (some .long), 2, false, 6, RX8), (⟨RX8, "rank", "(II)I"⟩, prog_10_method_34_code, 7, (some .int), 2, false, 5, RX8), (⟨RX8, "type", "(I)I"⟩, prog_10_method_35_code, 2, (some .int), 1, false, 2, RX8), (⟨RX8, "wipe", "()I"⟩, prog_10_method_36_code, 2, (some .int), 0, false, 1, RX8), (⟨RX8, "byteNow", "()I"⟩, prog_10_method_37_code, 1, (some .int), 0, false, 1, RX8), (⟨RX8, "isFigure", "()Z"⟩, prog_10_method_38_code, 1, (some .boolean), 0, false, 2, RX8), (⟨RX8, "part", "()V"⟩, prog_10_method_39_code, 5, none, 0, false, 3, RX8), (⟨RX8, "faultNow", "()I"⟩, prog_10_method_40_code, 1, (some .int), 0, false, 4, RX8), (⟨RX8, "fault", "()I"⟩, prog_10_method_41_code, 1, (some .int), 0, false, 5, RX8), (⟨RX8, "gradeBy", "(JJI)I"⟩, prog_10_method_42_code, 7, (some .int), 3, false, 1, RX8), (⟨RX8, "gradeByMean", "(I)I"⟩, prog_10_method_43_code, 2, (some .int), 1, false, 3, RX8), (⟨RX8, "grade", "(I)I"⟩, prog_10_method_44_code, 2, (some .int), 1, false, 5, RX8), (⟨RX8, "hangs", "(I)I"⟩, prog_10_method_45_code, 2, (some .int), 1, false, 5, RX8), (⟨RX8, "misses", "(II)I"⟩, prog_10_method_46_code, 5, (some .int), 2, false, 5, RX8), (⟨RX8, "doubts", "(II)V"⟩, prog_10_method_47_code, 13, none, 2, false, 4, RX8), (⟨RX8, "doubt", "(III)J"⟩, prog_10_method_48_code, 4, (some .long), 3, false, 5, RX8), (⟨RX8, "worsts", "()Z"⟩, prog_10_method_49_code, 3, (some .boolean), 0, false, 5, RX8), (⟨RX8, "worstTold", "(I)J"⟩, prog_10_method_50_code, 2, (some .long), 1, false, 6, RX8), (⟨RX8, "worst", "(I)J"⟩, prog_10_method_51_code, 2, (some .long), 1, false, 7, RX8)]
def ab_ms7 : List ab_MR := [(⟨RX8, "next", "(I)J"⟩, prog_10_method_52_code, 8, (some .long), 1, false, 6, RX8), (⟨RX8, "isBridge", "(I)Z"⟩, prog_10_method_53_code, 4, (some .boolean), 1, false, 2, RX8), (⟨RX8, "bridge", "(II)I"⟩, prog_10_method_54_code, 3, (some .int), 2, false, 3, RX8), (⟨RX8, "price", "(II)I"⟩, prog_10_method_55_code, 4, (some .int), 2, false, 3, RX8), (⟨RX8, "tied", "(I)I"⟩, prog_10_method_56_code, 9, (some .int), 1, false, 3, RX8), (⟨RX8, "drift", "(II)J"⟩, prog_10_method_57_code, 10, (some .long), 2, false, 5, RX8), (⟨RX8, "sign", "(I)I"⟩, prog_10_method_58_code, 1, (some .int), 1, true, 1, RX8), (⟨RX8, "agrees", "()I"⟩, prog_10_method_59_code, 4, (some .int), 0, false, 2, RX8), (⟨RX8, "turns", "()Z"⟩, prog_10_method_60_code, 6, (some .boolean), 0, false, 1, RX8), (⟨RX8, "agree", "(III)I"⟩, prog_10_method_61_code, 10, (some .int), 3, false, 3, RX8), (⟨RX8, "oddNow", "()I"⟩, prog_10_method_62_code, 11, (some .int), 0, false, 5, RX8), (⟨RX8, "odd", "()I"⟩, prog_10_method_63_code, 1, (some .int), 0, false, 6, RX8), (⟨RX8, "without", "(III)J"⟩, prog_10_method_64_code, 20, (some .long), 3, false, 6, RX8), (⟨RX8, "meets", "(I)I"⟩, prog_10_method_65_code, 2, (some .int), 1, false, 1, RX8), (⟨RX8, "isSheet", "(I)Z"⟩, prog_10_method_66_code, 1, (some .boolean), 1, true, 2, RX8), (⟨RX8, "sheet", "(III)I"⟩, prog_10_method_67_code, 5, (some .int), 3, false, 3, RX8), (⟨RX8, "lose", "(I)I"⟩, prog_10_method_68_code, 2, (some .int), 1, false, 3, RX8), (⟨RX8, "lacks", "(III)I"⟩, prog_10_method_69_code, 4, (some .int), 3, false, 2, RX8), (⟨RX8, "lay", "(III)V"⟩, prog_10_method_70_code, 4, none, 3, false, 1, RX8), (⟨RX8, "put", "(IIII)I"⟩, prog_10_method_71_code, 6, (some .int), 4, false, 3, RX8), (⟨RX8, "get", "(III)I"⟩, prog_10_method_72_code, 5, (some .int), 3, false, 3, RX8), (⟨RX8, "copy", "(IIIII)I"⟩, prog_10_method_73_code, 7, (some .int), 5, false, 3, RX8), (⟨RX8, "write", "(II)I"⟩, prog_10_method_74_code, 4, (some .int), 2, false, 3, RX8), (⟨RX8, "countNow", "(I)I"⟩, prog_10_method_75_code, 5, (some .int), 1, false, 3, RX8), (⟨RX8, "bundleMany", "()I"⟩, prog_10_method_76_code, 3, (some .int), 0, false, 4, RX8)]
def ab_ms8 : List ab_MR := [(⟨RX8, "count", "(I)I"⟩, prog_10_method_77_code, 2, (some .int), 1, false, 5, RX8), (⟨RX8, "digest", "()J"⟩, prog_10_method_78_code, 5, (some .long), 0, false, 7, RX8), (⟨RJ6, "bitCount", "(I)I"⟩, prog_11_method_49_code, 1, (some .int), 1, true, 1, RJ6)]
def ab_ms : List ab_MR := ab_ms0 ++ ab_ms1 ++ ab_ms2 ++ ab_ms3 ++ ab_ms4 ++ ab_ms5 ++ ab_ms6 ++ ab_ms7 ++ ab_ms8
def ab_c0 : List (Nat × Instr) := [(0, .aload_n 0), (1, .invokespecial 3), (4, .aload_n 0), (5, .bipush 12), (7, .newarray .int), (9, .putfield 9), (12, .aload_n 0), (13, .bipush 12), (15, .newarray .int), (17, .putfield 15), (20, .aload_n 0), (21, .bipush 49), (23, .newarray .int), (25, .putfield 18), (28, .aload_n 0), (29, .bipush 49), (31, .newarray .int), (33, .putfield 21), (36, .aload_n 0), (37, .bipush 7), (39, .newarray .int), (41, .putfield 24), (44, .aload_n 0), (45, .iconst 0), (46, .putfield 27), (49, .aload_n 0), (50, .iconst 0), (51, .putfield 31), (54, .return_)]
def ab_c1 : List (Nat × Instr) := [(0, .aload_n 0), (1, .iconst 0), (2, .putfield 27), (5, .iconst 0), (6, .istore 4), (8, .iload 4), (10, .bipush 12), (12, .if_icmp .ge 79), (15, .aload_n 1), (16, .getfield 34), (19, .iconst 4), (20, .iload 4), (22, .imul), (23, .iload_n 2), (24, .iadd), (25, .iaload), (26, .istore 5), (28, .aload_n 1), (29, .getfield 34), (32, .iconst 4), (33, .iload 4), (35, .imul), (36, .iload_n 3), (37, .iadd), (38, .iaload), (39, .istore 6), (41, .iload 5), (43, .iconst (-1)), (44, .if_icmp .eq 41), (47, .iload 6), (49, .iconst (-1)), (50, .if_icmp .eq 35), (53, .aload_n 0), (54, .getfield 9), (57, .aload_n 0), (58, .getfield 27), (61, .iload 5), (63, .iastore), (64, .aload_n 0), (65, .getfield 15), (68, .aload_n 0), (69, .getfield 27), (72, .iload 6), (74, .iastore), (75, .aload_n 0), (76, .dup), (77, .getfield 27), (80, .iconst 1), (81, .iadd), (82, .putfield 27), (85, .iinc 4 1), (88, .goto (-80)), (91, .return_)]
def ab_c2 : List (Nat × Instr) := [(0, .iconst 0), (1, .istore_n 1), (2, .iconst 0), (3, .istore_n 2), (4, .iload_n 2), (5, .aload_n 0), (6, .getfield 27), (9, .if_icmp .ge 61), (12, .iload_n 2), (13, .iconst 1), (14, .iadd), (15, .istore_n 3), (16, .iload_n 3), (17, .aload_n 0), (18, .getfield 27), (21, .if_icmp .ge 43), (24, .iload_n 1), (25, .aload_n 0), (26, .getfield 9), (29, .iload_n 2), (30, .iaload), (31, .aload_n 0), (32, .getfield 9), (35, .iload_n 3), (36, .iaload), (37, .invokestatic 39), (40, .aload_n 0), (41, .getfield 15), (44, .iload_n 2), (45, .iaload), (46, .aload_n 0), (47, .getfield 15), (50, .iload_n 3), (51, .iaload), (52, .invokestatic 39), (55, .imul), (56, .iadd), (57, .istore_n 1), (58, .iinc 3 1), (61, .goto (-45)), (64, .iinc 2 1), (67, .goto (-63)), (70, .iload_n 1), (71, .ireturn)]
def ab_c3 : List (Nat × Instr) := [(0, .aload_n 0), (1, .getfield 27), (4, .bipush 7), (6, .if_icmp .le 6), (9, .bipush (-4)), (11, .ireturn), (12, .aload_n 0), (13, .aload_n 0), (14, .invokevirtual 43), (17, .putfield 31), (20, .lconst 1), (21, .lstore_n 1), (22, .iconst 0), (23, .istore_n 3), (24, .iload_n 3), (25, .aload_n 0), (26, .getfield 27), (29, .if_icmp .ge 90), (32, .lload_n 1), (33, .iload_n 3), (34, .iconst 1), (35, .iadd), (36, .i2l), (37, .lmul), (38, .lstore_n 1), (39, .iconst 0), (40, .istore 4), (42, .iload 4), (44, .aload_n 0), (45, .getfield 27), (48, .if_icmp .ge 65), (51, .aload_n 0), (52, .getfield 18), (55, .bipush 7), (57, .iload_n 3), (58, .imul), (59, .iload 4), (61, .iadd), (62, .aload_n 0), (63, .getfield 9), (66, .iload_n 3), (67, .iaload), (68, .aload_n 0), (69, .getfield 9), (72, .iload 4), (74, .iaload), (75, .invokestatic 39), (78, .iastore), (79, .aload_n 0), (80, .getfield 21), (83, .bipush 7), (85, .iload_n 3), (86, .imul), (87, .iload 4), (89, .iadd), (90, .aload_n 0), (91, .getfield 15), (94, .iload_n 3), (95, .iaload), (96, .aload_n 0), (97, .getfield 15), (100, .iload 4), (102, .iaload), (103, .invokestatic 39), (106, .iastore), (107, .iinc 4 1), (110, .goto (-68)), (113, .iinc 3 1), (116, .goto (-92)), (119, .lload_n 1), (120, .lconst 0), (121, .lcmp), (122, .ifCond .le 21), (125, .ldc2_w 47), (128, .aload_n 0), (129, .iconst 0), (130, .iconst 0), (131, .iconst 0), (132, .invokevirtual 49), (135, .i2l), (136, .lmul), (137, .lload_n 1), (138, .ldiv), (139, .l2i), (140, .goto 4), (143, .iconst 0), (144, .ireturn)]
def ab_c4 : List (Nat × Instr) := [(0, .iload_n 1), (1, .aload_n 0), (2, .getfield 27), (5, .if_icmp .ge 9), (8, .iload_n 1), (9, .bipush 7), (11, .if_icmp .lt 17), (14, .iload_n 3), (15, .aload_n 0), (16, .getfield 31), (19, .if_icmp .lt 7), (22, .iconst 1), (23, .goto 4), (26, .iconst 0), (27, .ireturn), (28, .iconst 0), (29, .istore 4), (31, .iconst 0), (32, .istore 5), (34, .iload 5), (36, .aload_n 0), (37, .getfield 27), (40, .if_icmp .ge 53), (43, .iload_n 2), (44, .iload 5), (46, .ishr), (47, .iconst 1), (48, .iand), (49, .ifCond .ne 38), (52, .aload_n 0), (53, .getfield 24), (56, .iload_n 1), (57, .iload 5), (59, .iastore), (60, .iload 4), (62, .aload_n 0), (63, .iload_n 1), (64, .iconst 1), (65, .iadd), (66, .iload_n 2), (67, .iconst 1), (68, .iload 5), (70, .ishl), (71, .ior), (72, .iload_n 3), (73, .aload_n 0), (74, .iload_n 1), (75, .iload 5), (77, .invokevirtual 53), (80, .iadd), (81, .invokevirtual 49), (84, .iadd), (85, .istore 4), (87, .iinc 5 1), (90, .goto (-56)), (93, .iload 4), (95, .ireturn)]
def ab_c12 : List (Nat × Instr) := [(0, .iconst 0), (1, .istore_n 3), (2, .iconst 0), (3, .istore 4), (5, .iload 4), (7, .iload_n 1), (8, .if_icmp .ge 42), (11, .iload_n 3), (12, .aload_n 0), (13, .getfield 18), (16, .bipush 7), (18, .iload_n 1), (19, .imul), (20, .iload 4), (22, .iadd), (23, .iaload), (24, .aload_n 0), (25, .getfield 21), (28, .bipush 7), (30, .iload_n 2), (31, .imul), (32, .aload_n 0), (33, .getfield 24), (36, .iload 4), (38, .iaload), (39, .iadd), (40, .iaload), (41, .imul), (42, .iadd), (43, .istore_n 3), (44, .iinc 4 1), (47, .goto (-42)), (50, .iload_n 3), (51, .ireturn)]
def ab_c13 : List (Nat × Instr) := [(0, .iload_n 0), (1, .iload_n 1), (2, .if_icmp .ne 5), (5, .iconst 0), (6, .ireturn), (7, .iload_n 0), (8, .iload_n 1), (9, .if_icmp .ge 7), (12, .iconst (-1)), (13, .goto 4), (16, .iconst 1), (17, .ireturn)]
def ab_c14 : List (Nat × Instr) := [(0, .aload_n 0), (1, .invokespecial 3), (4, .aload_n 0), (5, .bipush 48), (7, .newarray .int), (9, .putfield 9), (12, .aload_n 0), (13, .bipush 12), (15, .newarray .int), (17, .putfield 15), (20, .aload_n 0), (21, .bipush 12), (23, .newarray .long), (25, .putfield 18), (28, .aload_n 0), (29, .iconst 4), (30, .newarray .int), (32, .putfield 22), (35, .aload_n 0), (36, .iconst 4), (37, .newarray .int), (39, .putfield 25), (42, .aload_n 0), (43, .bipush 12), (45, .newarray .int), (47, .putfield 28), (50, .aload_n 0), (51, .bipush 9), (53, .newarray .long), (55, .putfield 31), (58, .aload_n 0), (59, .bipush 9), (61, .newarray .long), (63, .putfield 34), (66, .aload_n 0), (67, .iconst 3), (68, .newarray .long), (70, .putfield 37), (73, .aload_n 0), (74, .iconst 4), (75, .newarray .long), (77, .putfield 40), (80, .aload_n 0), (81, .bipush 12), (83, .newarray .long), (85, .putfield 43), (88, .aload_n 0), (89, .lconst 1), (90, .putfield 46), (93, .aload_n 0), (94, .iconst 0), (95, .putfield 50), (98, .aload_n 0), (99, .lconst 0), (100, .putfield 54), (103, .aload_n 0), (104, .iconst (-1)), (105, .putfield 57), (108, .aload_n 0), (109, .iconst (-1)), (110, .putfield 60), (113, .aload_n 0), (114, .iconst 0), (115, .putfield 63), (118, .return_)]
def ab_c15 : List (Nat × Instr) := [(0, .ldc2_w 67), (3, .aload_n 0), (4, .getfield 46), (7, .lmul), (8, .lreturn)]
def ab_c16 : List (Nat × Instr) := [(0, .iconst 0), (1, .istore 4), (3, .iload 4), (5, .bipush 48), (7, .if_icmp .ge 33), (10, .aload_n 0), (11, .getfield 9), (14, .iload 4), (16, .iload 4), (18, .iload_n 2), (19, .if_icmp .ne 7), (22, .iload_n 3), (23, .goto 10), (26, .aload_n 1), (27, .getfield 9), (30, .iload 4), (32, .iaload), (33, .iastore), (34, .iinc 4 1), (37, .goto (-34)), (40, .aload_n 0), (41, .invokevirtual 69), (44, .return_)]
def ab_c17 : List (Nat × Instr) := [(0, .aload_n 0), (1, .iconst 0), (2, .putfield 63), (5, .aload_n 0), (6, .invokevirtual 72), (9, .aload_n 0), (10, .invokevirtual 75), (13, .aload_n 0), (14, .invokevirtual 78), (17, .aload_n 0), (18, .invokevirtual 81), (21, .aload_n 0), (22, .invokevirtual 84), (25, .return_)]
def ab_c18 : List (Nat × Instr) := [(0, .iconst 0), (1, .istore_n 1), (2, .iload_n 1), (3, .bipush 12), (5, .if_icmp .ge 75), (8, .iconst 0), (9, .istore_n 2), (10, .iconst 0), (11, .istore_n 3), (12, .iload_n 3), (13, .iconst 4), (14, .if_icmp .ge 29), (17, .aload_n 0), (18, .getfield 9), (21, .iconst 4), (22, .iload_n 1), (23, .imul), (24, .iload_n 3), (25, .iadd), (26, .iaload), (27, .iconst (-1)), (28, .if_icmp .eq 9), (31, .iload_n 2), (32, .iconst 1), (33, .iload_n 3), (34, .ishl), (35, .ior), (36, .istore_n 2), (37, .iinc 3 1), (40, .goto (-28)), (43, .aload_n 0), (44, .getfield 15), (47, .iload_n 1), (48, .iload_n 2), (49, .iastore), (50, .iload_n 2), (51, .invokestatic 87), (54, .istore_n 3), (55, .aload_n 0), (56, .getfield 18), (59, .iload_n 1), (60, .iload_n 3), (61, .ifCond .le 11), (64, .bipush 12), (66, .iload_n 3), (67, .idiv), (68, .i2l), (69, .goto 4), (72, .lconst 0), (73, .lastore), (74, .iinc 1 1), (77, .goto (-75)), (80, .return_)]
def ab_c19 : List (Nat × Instr) := [(0, .iconst 0), (1, .istore_n 1), (2, .iload_n 1), (3, .iconst 4), (4, .if_icmp .ge 54), (7, .iconst 0), (8, .istore_n 2), (9, .iconst 0), (10, .istore_n 3), (11, .iload_n 3), (12, .bipush 12), (14, .if_icmp .ge 31), (17, .aload_n 0), (18, .getfield 15), (21, .iload_n 3), (22, .iaload), (23, .iload_n 1), (24, .ishr), (25, .iconst 1), (26, .iand), (27, .ifCond .eq 12), (30, .iload_n 2), (31, .aload_n 0), (32, .getfield 15), (35, .iload_n 3), (36, .iaload), (37, .ior), (38, .istore_n 2), (39, .iinc 3 1), (42, .goto (-31)), (45, .aload_n 0), (46, .getfield 22), (49, .iload_n 1), (50, .iload_n 2), (51, .iastore), (52, .iinc 1 1), (55, .goto (-53)), (58, .iconst 0), (59, .istore_n 1), (60, .iload_n 1), (61, .iconst 4), (62, .if_icmp .ge 50), (65, .iconst 0), (66, .istore_n 2), (67, .iload_n 2), (68, .iconst 4), (69, .if_icmp .ge 37), (72, .aload_n 0), (73, .getfield 22), (76, .iload_n 2), (77, .iaload), (78, .iload_n 1), (79, .ishr), (80, .iconst 1), (81, .iand), (82, .ifCond .eq 18), (85, .aload_n 0), (86, .getfield 22), (89, .iload_n 2), (90, .dup2), (91, .iaload), (92, .aload_n 0), (93, .getfield 22), (96, .iload_n 1), (97, .iaload), (98, .ior), (99, .iastore), (100, .iinc 2 1), (103, .goto (-36)), (106, .iinc 1 1), (109, .goto (-49)), (112, .return_)]
def ab_c20 : List (Nat × Instr) := [(0, .aload_n 0), (1, .iconst 0), (2, .putfield 50), (5, .iconst 0), (6, .istore_n 1), (7, .iload_n 1), (8, .iconst 4), (9, .if_icmp .ge 56), (12, .aload_n 0), (13, .getfield 25), (16, .iload_n 1), (17, .aload_n 0), (18, .getfield 22), (21, .iload_n 1), (22, .iaload), (23, .invokestatic 93), (26, .iastore), (27, .aload_n 0), (28, .getfield 25), (31, .iload_n 1), (32, .iaload), (33, .iconst (-1)), (34, .if_icmp .eq 25), (37, .aload_n 0), (38, .getfield 25), (41, .iload_n 1), (42, .iaload), (43, .iload_n 1), (44, .if_icmp .eq 15), (47, .aload_n 0), (48, .dup), (49, .getfield 50), (52, .iconst 1), (53, .iload_n 1), (54, .ishl), (55, .ior), (56, .putfield 50), (59, .iinc 1 1), (62, .goto (-55)), (65, .iconst 0), (66, .istore_n 1), (67, .iload_n 1), (68, .bipush 12), (70, .if_icmp .ge 40), (73, .aload_n 0), (74, .getfield 15), (77, .iload_n 1), (78, .iaload), (79, .invokestatic 93), (82, .istore_n 2), (83, .aload_n 0), (84, .getfield 28), (87, .iload_n 1), (88, .iload_n 2), (89, .iconst (-1)), (90, .if_icmp .ne 7), (93, .iconst (-1)), (94, .goto 9), (97, .aload_n 0), (98, .getfield 25), (101, .iload_n 2), (102, .iaload), (103, .iastore), (104, .iinc 1 1), (107, .goto (-40)), (110, .return_)]
def ab_c21 : List (Nat × Instr) := [(0, .iconst 0), (1, .istore_n 1), (2, .iload_n 1), (3, .iconst 3), (4, .if_icmp .ge 52), (7, .iconst 0), (8, .istore_n 2), (9, .iload_n 2), (10, .iconst 3), (11, .if_icmp .ge 39), (14, .aload_n 0), (15, .getfield 31), (18, .iconst 3), (19, .iload_n 1), (20, .imul), (21, .iload_n 2), (22, .iadd), (23, .iload_n 1), (24, .iload_n 2), (25, .if_icmp .ne 17), (28, .aload_n 0), (29, .iload_n 1), (30, .iconst 1), (31, .iadd), (32, .invokevirtual 96), (35, .ifCond .ne 7), (38, .lconst 1), (39, .goto 4), (42, .lconst 0), (43, .lastore), (44, .iinc 2 1), (47, .goto (-38)), (50, .iinc 1 1), (53, .goto (-51)), (56, .iconst 0), (57, .istore_n 1), (58, .iload_n 1), (59, .bipush 12), (61, .if_icmp .ge 79), (64, .iconst 0), (65, .istore_n 2), (66, .iload_n 2), (67, .iconst 3), (68, .if_icmp .ge 66), (71, .aload_n 0), (72, .iload_n 1), (73, .iload_n 2), (74, .invokevirtual 100), (77, .ifCond .eq 51), (80, .aload_n 0), (81, .getfield 31), (84, .iconst 3), (85, .iload_n 2), (86, .imul), (87, .iload_n 2), (88, .iadd), (89, .dup2), (90, .laload), (91, .ldc2_w 67), (94, .ladd), (95, .lastore), (96, .iconst 0), (97, .istore_n 3), (98, .iload_n 3), (99, .iconst 3), (100, .if_icmp .ge 28), (103, .aload_n 0), (104, .getfield 31), (107, .iconst 3), (108, .iload_n 2), (109, .imul), (110, .iload_n 3), (111, .iadd), (112, .dup2), (113, .laload), (114, .aload_n 0), (115, .iload_n 1), (116, .iload_n 3), (117, .invokevirtual 104), (120, .lsub), (121, .lastore), (122, .iinc 3 1), (125, .goto (-27)), (128, .iinc 2 1), (131, .goto (-65)), (134, .iinc 1 1), (137, .goto (-79)), (140, .return_)]
def ab_c22 : List (Nat × Instr) := [(0, .aload_n 0), (1, .getfield 50), (4, .iload_n 1), (5, .ishr), (6, .iconst 1), (7, .iand), (8, .ifCond .eq 7), (11, .iconst 1), (12, .goto 4), (15, .iconst 0), (16, .ireturn)]
def ab_c23 : List (Nat × Instr) := [(0, .aload_n 0), (1, .iload_n 1), (2, .iload_n 2), (3, .invokevirtual 100), (6, .ifCond .eq 12), (9, .aload_n 0), (10, .getfield 18), (13, .iload_n 1), (14, .laload), (15, .goto 4), (18, .lconst 0), (19, .lreturn)]
def ab_c24 : List (Nat × Instr) := [(0, .aload_n 0), (1, .getfield 15), (4, .iload_n 1), (5, .iaload), (6, .aload_n 0), (7, .getfield 50), (10, .iand), (11, .iconst 2), (12, .iload_n 2), (13, .ishl), (14, .iand), (15, .ifCond .eq 7), (18, .iconst 1), (19, .goto 4), (22, .iconst 0), (23, .ireturn)]
def ab_c25 : List (Nat × Instr) := [(0, .iconst 0), (1, .istore_n 1), (2, .iload_n 1), (3, .iconst 3), (4, .if_icmp .ge 38), (7, .iconst 0), (8, .istore_n 2), (9, .iload_n 2), (10, .iconst 3), (11, .if_icmp .ge 25), (14, .aload_n 0), (15, .getfield 34), (18, .iconst 3), (19, .iload_n 1), (20, .imul), (21, .iload_n 2), (22, .iadd), (23, .aload_n 0), (24, .iload_n 1), (25, .iload_n 2), (26, .invokevirtual 108), (29, .lastore), (30, .iinc 2 1), (33, .goto (-24)), (36, .iinc 1 1), (39, .goto (-37)), (42, .aload_n 0), (43, .aload_n 0), (44, .getfield 31), (47, .iconst 0), (48, .laload), (49, .aload_n 0), (50, .getfield 34), (53, .iconst 0), (54, .laload), (55, .lmul), (56, .aload_n 0), (57, .getfield 31), (60, .iconst 1), (61, .laload), (62, .aload_n 0), (63, .getfield 34), (66, .iconst 1), (67, .laload), (68, .lmul), (69, .ladd), (70, .aload_n 0), (71, .getfield 31), (74, .iconst 2), (75, .laload), (76, .aload_n 0), (77, .getfield 34), (80, .iconst 2), (81, .laload), (82, .lmul), (83, .ladd), (84, .putfield 46), (87, .return_)]
def ab_c26 : List (Nat × Instr) := [(0, .iconst 3), (1, .iload_n 1), (2, .iconst 1), (3, .iadd), (4, .iconst 3), (5, .irem), (6, .imul), (7, .istore_n 3), (8, .iconst 3), (9, .iload_n 1), (10, .iconst 2), (11, .iadd), (12, .iconst 3), (13, .irem), (14, .imul), (15, .istore 4), (17, .iload_n 2), (18, .iconst 1), (19, .iadd), (20, .iconst 3), (21, .irem), (22, .istore 5), (24, .iload_n 2), (25, .iconst 2), (26, .iadd), (27, .iconst 3), (28, .irem), (29, .istore 6), (31, .aload_n 0), (32, .getfield 31), (35, .iload_n 3), (36, .iload 5), (38, .iadd), (39, .laload), (40, .aload_n 0), (41, .getfield 31), (44, .iload 4), (46, .iload 6), (48, .iadd), (49, .laload), (50, .lmul), (51, .aload_n 0), (52, .getfield 31), (55, .iload_n 3), (56, .iload 6), (58, .iadd), (59, .laload), (60, .aload_n 0), (61, .getfield 31), (64, .iload 4), (66, .iload 5), (68, .iadd), (69, .laload), (70, .lmul), (71, .lsub), (72, .lreturn)]
def ab_c27 : List (Nat × Instr) := [(0, .aload_n 0), (1, .invokevirtual 111), (4, .iconst 0), (5, .istore_n 1), (6, .iload_n 1), (7, .iconst 4), (8, .if_icmp .ge 16), (11, .aload_n 0), (12, .getfield 40), (15, .iload_n 1), (16, .lconst 0), (17, .lastore), (18, .iinc 1 1), (21, .goto (-15)), (24, .iconst 0), (25, .istore_n 1), (26, .iload_n 1), (27, .iconst 3), (28, .if_icmp .ge 50), (31, .iconst 0), (32, .istore_n 2), (33, .iload_n 2), (34, .iconst 3), (35, .if_icmp .ge 37), (38, .aload_n 0), (39, .getfield 40), (42, .iload_n 1), (43, .iconst 1), (44, .iadd), (45, .dup2), (46, .laload), (47, .aload_n 0), (48, .getfield 34), (51, .iconst 3), (52, .iload_n 1), (53, .imul), (54, .iload_n 2), (55, .iadd), (56, .laload), (57, .aload_n 0), (58, .getfield 37), (61, .iload_n 2), (62, .laload), (63, .lmul), (64, .ladd), (65, .lastore), (66, .iinc 2 1), (69, .goto (-36)), (72, .iinc 1 1), (75, .goto (-49)), (78, .iconst 0), (79, .istore_n 1), (80, .iload_n 1), (81, .bipush 12), (83, .if_icmp .ge 77), (86, .aload_n 0), (87, .iload_n 1), (88, .invokevirtual 114), (91, .aload_n 0), (92, .getfield 46), (95, .lmul), (96, .lstore_n 2), (97, .iconst 0), (98, .istore 4), (100, .iload 4), (102, .iconst 4), (103, .if_icmp .ge 37), (106, .lload_n 2), (107, .aload_n 0), (108, .getfield 15), (111, .iload_n 1), (112, .iaload), (113, .iload 4), (115, .ishr), (116, .iconst 1), (117, .iand), (118, .ifCond .eq 13), (121, .aload_n 0), (122, .getfield 40), (125, .iload 4), (127, .laload), (128, .goto 4), (131, .lconst 0), (132, .ladd), (133, .lstore_n 2), (134, .iinc 4 1), (137, .goto (-37)), (140, .aload_n 0), (141, .getfield 43), (144, .iload_n 1), (145, .aload_n 0), (146, .getfield 18), (149, .iload_n 1), (150, .laload), (151, .lload_n 2), (152, .lmul), (153, .lastore), (154, .iinc 1 1), (157, .goto (-77)), (160, .return_)]
def ab_c28 : List (Nat × Instr) := [(0, .iconst 0), (1, .istore_n 1), (2, .iload_n 1), (3, .iconst 3), (4, .if_icmp .ge 77), (7, .aload_n 0), (8, .getfield 37), (11, .iload_n 1), (12, .lconst 0), (13, .lastore), (14, .iconst 0), (15, .istore_n 2), (16, .iload_n 2), (17, .bipush 12), (19, .if_icmp .ge 56), (22, .aload_n 0), (23, .iload_n 2), (24, .iload_n 1), (25, .invokevirtual 100), (28, .ifCond .eq 41), (31, .aload_n 0), (32, .getfield 37), (35, .iload_n 1), (36, .dup2), (37, .laload), (38, .aload_n 0), (39, .getfield 18), (42, .iload_n 2), (43, .laload), (44, .aload_n 0), (45, .iload_n 2), (46, .invokevirtual 114), (49, .lmul), (50, .bipush 12), (52, .aload_n 0), (53, .getfield 9), (56, .iconst 4), (57, .iload_n 2), (58, .imul), (59, .iload_n 1), (60, .iadd), (61, .iconst 1), (62, .iadd), (63, .iaload), (64, .imul), (65, .i2l), (66, .lsub), (67, .ladd), (68, .lastore), (69, .iinc 2 1), (72, .goto (-56)), (75, .iinc 1 1), (78, .goto (-76)), (81, .return_)]
def ab_c29 : List (Nat × Instr) := [(0, .lconst 0), (1, .lstore_n 2), (2, .iconst 0), (3, .istore 4), (5, .iload 4), (7, .iconst 4), (8, .if_icmp .ge 28), (11, .lload_n 2), (12, .iconst 0), (13, .aload_n 0), (14, .getfield 9), (17, .iconst 4), (18, .iload_n 1), (19, .imul), (20, .iload 4), (22, .iadd), (23, .iaload), (24, .invokestatic 118), (27, .i2l), (28, .ladd), (29, .lstore_n 2), (30, .iinc 4 1), (33, .goto (-28)), (36, .lload_n 2), (37, .lreturn)]
def ab_c30 : List (Nat × Instr) := [(0, .ldc2_w 67), (3, .aload_n 0), (4, .getfield 9), (7, .iload_n 1), (8, .iaload), (9, .i2l), (10, .aload_n 0), (11, .getfield 46), (14, .lmul), (15, .aload_n 0), (16, .getfield 40), (19, .iload_n 1), (20, .iconst 4), (21, .irem), (22, .laload), (23, .ladd), (24, .lmul), (25, .aload_n 0), (26, .getfield 43), (29, .iload_n 1), (30, .iconst 4), (31, .idiv), (32, .laload), (33, .lsub), (34, .lreturn)]
def ab_c31 : List (Nat × Instr) := [(0, .lconst 0), (1, .lstore_n 2), (2, .iconst 0), (3, .istore 4), (5, .iload 4), (7, .bipush 48), (9, .if_icmp .ge 43), (12, .aload_n 0), (13, .getfield 9), (16, .iload 4), (18, .iaload), (19, .iconst (-1)), (20, .if_icmp .eq 26), (23, .iload_n 1), (24, .iload 4), (26, .iconst 4), (27, .irem), (28, .ishr), (29, .iconst 1), (30, .iand), (31, .ifCond .eq 15), (34, .lload_n 2), (35, .aload_n 0), (36, .iload 4), (38, .invokevirtual 124), (41, .invokestatic 127), (44, .ladd), (45, .lstore_n 2), (46, .iinc 4 1), (49, .goto (-44)), (52, .lload_n 2), (53, .lreturn)]
def ab_c32 : List (Nat × Instr) := [(0, .aload_n 0), (1, .getfield 28), (4, .iload_n 1), (5, .iaload), (6, .iconst (-1)), (7, .if_icmp .eq 22), (10, .aload_n 0), (11, .getfield 28), (14, .iload_n 1), (15, .iaload), (16, .aload_n 0), (17, .getfield 28), (20, .iload_n 2), (21, .iaload), (22, .if_icmp .ne 7), (25, .iconst 1), (26, .goto 4), (29, .iconst 0), (30, .ireturn)]
def ab_c33 : List (Nat × Instr) := [(0, .aload_n 0), (1, .getfield 46), (4, .aload_n 0), (5, .getfield 18), (8, .iload_n 1), (9, .laload), (10, .aload_n 0), (11, .getfield 18), (14, .iload_n 2), (15, .laload), (16, .ladd), (17, .lmul), (18, .lstore_n 3), (19, .iconst 0), (20, .istore 5), (22, .iload 5), (24, .iconst 3), (25, .if_icmp .ge 82), (28, .aload_n 0), (29, .iload_n 1), (30, .iload 5), (32, .invokevirtual 104), (35, .aload_n 0), (36, .iload_n 2), (37, .iload 5), (39, .invokevirtual 104), (42, .lsub), (43, .lstore 6), (45, .iconst 0), (46, .istore 8), (48, .lload 6), (50, .lconst 0), (51, .lcmp), (52, .ifCond .eq 49), (55, .iload 8), (57, .iconst 3), (58, .if_icmp .ge 43), (61, .lload_n 3), (62, .lload 6), (64, .aload_n 0), (65, .getfield 34), (68, .iconst 3), (69, .iload 5), (71, .imul), (72, .iload 8), (74, .iadd), (75, .laload), (76, .lmul), (77, .aload_n 0), (78, .iload_n 1), (79, .iload 8), (81, .invokevirtual 104), (84, .aload_n 0), (85, .iload_n 2), (86, .iload 8), (88, .invokevirtual 104), (91, .lsub), (92, .lmul), (93, .ladd), (94, .lstore_n 3), (95, .iinc 8 1), (98, .goto (-50)), (101, .iinc 5 1), (104, .goto (-82)), (107, .lload_n 3), (108, .lreturn)]
def ab_c34 : List (Nat × Instr) := [(0, .aload_n 0), (1, .getfield 63), (4, .ifCond .eq 4), (7, .return_), (8, .aload_n 0), (9, .iconst 1), (10, .putfield 63), (13, .aload_n 0), (14, .lconst 0), (15, .putfield 54), (18, .aload_n 0), (19, .iconst (-1)), (20, .putfield 57), (23, .aload_n 0), (24, .iconst (-1)), (25, .putfield 60), (28, .iconst 0), (29, .istore_n 1), (30, .iload_n 1), (31, .bipush 12), (33, .if_icmp .ge 69), (36, .iload_n 1), (37, .iconst 1), (38, .iadd), (39, .istore_n 2), (40, .iload_n 2), (41, .bipush 12), (43, .if_icmp .ge 53), (46, .aload_n 0), (47, .iload_n 1), (48, .iload_n 2), (49, .invokevirtual 131), (52, .ifCond .eq 12), (55, .aload_n 0), (56, .iload_n 1), (57, .iload_n 2), (58, .invokevirtual 134), (61, .goto 4), (64, .lconst 0), (65, .lstore_n 3), (66, .lload_n 3), (67, .aload_n 0), (68, .getfield 54), (71, .lcmp), (72, .ifCond .le 18), (75, .aload_n 0), (76, .lload_n 3), (77, .putfield 54), (80, .aload_n 0), (81, .iload_n 1), (82, .putfield 57), (85, .aload_n 0), (86, .iload_n 2), (87, .putfield 60), (90, .iinc 2 1), (93, .goto (-53)), (96, .iinc 1 1), (99, .goto (-69)), (102, .return_)]
def ab_c35 : List (Nat × Instr) := [(0, .aload_n 0), (1, .getfield 15), (4, .iload_n 1), (5, .iaload), (6, .iconst 1), (7, .iload_n 2), (8, .ishl), (9, .iconst (-1)), (10, .ixor), (11, .iand), (12, .istore_n 3), (13, .iconst 0), (14, .istore 4), (16, .iload 4), (18, .iconst 4), (19, .if_icmp .ge 53), (22, .iconst 0), (23, .istore 5), (25, .iload 5), (27, .bipush 12), (29, .if_icmp .ge 37), (32, .iload 5), (34, .iload_n 1), (35, .if_icmp .eq 25), (38, .aload_n 0), (39, .getfield 15), (42, .iload 5), (44, .iaload), (45, .iload_n 3), (46, .iand), (47, .ifCond .eq 13), (50, .iload_n 3), (51, .aload_n 0), (52, .getfield 15), (55, .iload 5), (57, .iaload), (58, .ior), (59, .istore_n 3), (60, .iinc 5 1), (63, .goto (-38)), (66, .iinc 4 1), (69, .goto (-53)), (72, .iload_n 3), (73, .iload_n 2), (74, .ishr), (75, .iconst 1), (76, .iand), (77, .ifCond .ne 7), (80, .iconst 1), (81, .goto 4), (84, .iconst 0), (85, .ireturn)]
def ab_c36 : List (Nat × Instr) := [(0, .iconst 0), (1, .istore_n 1), (2, .iconst 0), (3, .istore_n 2), (4, .iload_n 2), (5, .bipush 48), (7, .if_icmp .ge 35), (10, .aload_n 0), (11, .getfield 9), (14, .iload_n 2), (15, .iaload), (16, .iconst (-1)), (17, .if_icmp .eq 19), (20, .aload_n 0), (21, .iload_n 2), (22, .iconst 4), (23, .idiv), (24, .iload_n 2), (25, .iconst 4), (26, .irem), (27, .invokevirtual 137), (30, .ifCond .eq 6), (33, .iinc 1 1), (36, .iinc 2 1), (39, .goto (-35)), (42, .iload_n 1), (43, .ireturn)]
def ab_c37 : List (Nat × Instr) := [(0, .iconst 0), (1, .istore_n 1), (2, .iconst 0), (3, .istore_n 2), (4, .iload_n 2), (5, .iconst 4), (6, .if_icmp .ge 22), (9, .aload_n 0), (10, .getfield 25), (13, .iload_n 2), (14, .iaload), (15, .iload_n 2), (16, .if_icmp .ne 6), (19, .iinc 1 1), (22, .iinc 2 1), (25, .goto (-21)), (28, .iload_n 1), (29, .ireturn)]
def ab_c38 : List (Nat × Instr) := [(0, .iconst 0), (1, .istore_n 2), (2, .iconst 0), (3, .istore_n 3), (4, .iload_n 3), (5, .bipush 12), (7, .if_icmp .ge 22), (10, .iload_n 2), (11, .aload_n 0), (12, .getfield 15), (15, .iload_n 3), (16, .iaload), (17, .iload_n 1), (18, .ishr), (19, .iconst 1), (20, .iand), (21, .iadd), (22, .istore_n 2), (23, .iinc 3 1), (26, .goto (-22)), (29, .iload_n 2), (30, .ireturn)]
def ab_c39 : List (Nat × Instr) := [(0, .iconst 0), (1, .istore_n 1), (2, .iconst 0), (3, .istore_n 2), (4, .iload_n 2), (5, .bipush 12), (7, .if_icmp .ge 21), (10, .iload_n 1), (11, .aload_n 0), (12, .getfield 15), (15, .iload_n 2), (16, .iaload), (17, .invokestatic 87), (20, .iadd), (21, .istore_n 1), (22, .iinc 2 1), (25, .goto (-21)), (28, .iload_n 1), (29, .ireturn)]
def ab_c40 : List (Nat × Instr) := [(0, .iconst 0), (1, .istore_n 1), (2, .iconst 0), (3, .istore_n 2), (4, .iload_n 2), (5, .bipush 12), (7, .if_icmp .ge 24), (10, .aload_n 0), (11, .getfield 15), (14, .iload_n 2), (15, .iaload), (16, .ifCond .eq 9), (19, .iload_n 1), (20, .iconst 1), (21, .iload_n 2), (22, .ishl), (23, .ior), (24, .istore_n 1), (25, .iinc 2 1), (28, .goto (-24)), (31, .iload_n 1), (32, .ireturn)]
def ab_c41 : List (Nat × Instr) := [(0, .aload_n 0), (1, .invokespecial 3), (4, .aload_n 0), (5, .bipush 60), (7, .newarray .int), (9, .putfield 11), (12, .aload_n 0), (13, .bipush 6), (15, .newarray .int), (17, .putfield 15), (20, .aload_n 0), (21, .bipush 6), (23, .newarray .int), (25, .putfield 18), (28, .aload_n 0), (29, .iconst 0), (30, .putfield 21), (33, .aload_n 0), (34, .iconst 0), (35, .putfield 25), (38, .aload_n 0), (39, .iconst 0), (40, .putfield 28), (43, .aload_n 0), (44, .iconst 0), (45, .putfield 31), (48, .return_)]
def ab_c42 : List (Nat × Instr) := [(0, .aload_n 0), (1, .getfield 21), (4, .bipush 60), (6, .if_icmp .lt 7), (9, .iconst 1), (10, .goto 4), (13, .iconst 0), (14, .ireturn)]
def ab_c43 : List (Nat × Instr) := [(0, .aload_n 0), (1, .invokevirtual 34), (4, .ifCond .eq 4), (7, .return_), (8, .aload_n 0), (9, .getfield 11), (12, .aload_n 0), (13, .getfield 21), (16, .iload_n 1), (17, .iastore), (18, .aload_n 0), (19, .dup), (20, .getfield 21), (23, .iconst 1), (24, .iadd), (25, .putfield 21), (28, .aload_n 0), (29, .invokevirtual 38), (32, .return_)]
def ab_c44 : List (Nat × Instr) := [(0, .aload_n 0), (1, .getfield 21), (4, .istore_n 1), (5, .aload_n 0), (6, .iconst 0), (7, .putfield 21), (10, .aload_n 0), (11, .invokevirtual 38), (14, .iload_n 1), (15, .ireturn)]
def ab_c45 : List (Nat × Instr) := [(0, .aload_n 0), (1, .iconst 0), (2, .putfield 25), (5, .aload_n 0), (6, .iconst 0), (7, .putfield 28), (10, .aload_n 0), (11, .iconst (-1)), (12, .putfield 31), (15, .iconst 1), (16, .istore_n 1), (17, .iconst 0), (18, .istore_n 2), (19, .iload_n 2), (20, .bipush 6), (22, .if_icmp .gt 18), (25, .iload_n 1), (26, .ifCond .eq 14), (29, .aload_n 0), (30, .invokevirtual 41), (33, .istore_n 1), (34, .iinc 2 1), (37, .goto (-18)), (40, .return_)]
def ab_c46 : List (Nat × Instr) := [(0, .aload_n 0), (1, .aload_n 0), (2, .getfield 28), (5, .invokevirtual 44), (8, .bipush 65), (10, .isub), (11, .istore_n 1), (12, .aload_n 0), (13, .getfield 25), (16, .ifCond .ne 7), (19, .iconst 0), (20, .goto 16), (23, .aload_n 0), (24, .getfield 15), (27, .aload_n 0), (28, .getfield 25), (31, .iconst 1), (32, .isub), (33, .iaload), (34, .iconst 1), (35, .iadd), (36, .istore_n 2), (37, .iload_n 1), (38, .iload_n 2), (39, .if_icmp .lt 18), (42, .iload_n 1), (43, .bipush 6), (45, .if_icmp .ge 12), (48, .aload_n 0), (49, .getfield 25), (52, .bipush 6), (54, .if_icmp .lt 12), (57, .aload_n 0), (58, .aload_n 0), (59, .getfield 28), (62, .invokevirtual 48), (65, .ireturn), (66, .aload_n 0), (67, .dup), (68, .getfield 28), (71, .iconst 1), (72, .iadd), (73, .putfield 28), (76, .aload_n 0), (77, .aload_n 0), (78, .getfield 28), (81, .invokevirtual 44), (84, .bipush 61), (86, .if_icmp .eq 12), (89, .aload_n 0), (90, .aload_n 0), (91, .getfield 28), (94, .invokevirtual 48), (97, .ireturn), (98, .aload_n 0), (99, .dup), (100, .getfield 28), (103, .iconst 1), (104, .iadd), (105, .putfield 28), (108, .aload_n 0), (109, .invokevirtual 52), (112, .istore_n 3), (113, .iload_n 3), (114, .ifCond .ge 5), (117, .iconst 0), (118, .ireturn), (119, .aload_n 0), (120, .getfield 15), (123, .aload_n 0), (124, .getfield 25), (127, .iload_n 1), (128, .iastore), (129, .aload_n 0), (130, .getfield 18), (133, .aload_n 0), (134, .getfield 25), (137, .iload_n 3), (138, .iastore), (139, .aload_n 0), (140, .dup), (141, .getfield 25), (144, .iconst 1), (145, .iadd), (146, .putfield 25), (149, .aload_n 0), (150, .getfield 28), (153, .aload_n 0), (154, .getfield 21), (157, .if_icmp .ne 5), (160, .iconst 0), (161, .ireturn), (162, .aload_n 0), (163, .aload_n 0), (164, .getfield 28), (167, .invokevirtual 44), (170, .bipush 59), (172, .if_icmp .eq 12), (175, .aload_n 0), (176, .aload_n 0), (177, .getfield 28), (180, .invokevirtual 48), (183, .ireturn), (184, .aload_n 0), (185, .dup), (186, .getfield 28), (189, .iconst 1), (190, .iadd), (191, .putfield 28), (194, .iconst 1), (195, .ireturn)]
def ab_c47 : List (Nat × Instr) := [(0, .aload_n 0), (1, .getfield 28), (4, .istore_n 1), (5, .iconst 0), (6, .istore_n 2), (7, .iconst 0), (8, .istore_n 3), (9, .iload_n 3), (10, .iconst 3), (11, .if_icmp .ge 50), (14, .aload_n 0), (15, .aload_n 0), (16, .getfield 28), (19, .invokevirtual 56), (22, .ifCond .eq 39), (25, .bipush 10), (27, .iload_n 2), (28, .imul), (29, .bipush 10), (31, .aload_n 0), (32, .aload_n 0), (33, .getfield 28), (36, .invokevirtual 44), (39, .bipush 48), (41, .isub), (42, .imul), (43, .iadd), (44, .istore_n 2), (45, .aload_n 0), (46, .dup), (47, .getfield 28), (50, .iconst 1), (51, .iadd), (52, .putfield 28), (55, .iinc 3 1), (58, .goto (-49)), (61, .aload_n 0), (62, .getfield 28), (65, .iload_n 1), (66, .if_icmp .ne 14), (69, .aload_n 0), (70, .aload_n 0), (71, .getfield 28), (74, .invokevirtual 48), (77, .pop), (78, .iconst (-1)), (79, .ireturn), (80, .aload_n 0), (81, .aload_n 0), (82, .getfield 28), (85, .invokevirtual 44), (88, .bipush 46), (90, .if_icmp .ne 59), (93, .aload_n 0), (94, .dup), (95, .getfield 28), (98, .iconst 1), (99, .iadd), (100, .putfield 28), (103, .aload_n 0), (104, .aload_n 0), (105, .getfield 28), (108, .invokevirtual 56), (111, .ifCond .ne 14), (114, .aload_n 0), (115, .aload_n 0), (116, .getfield 28), (119, .invokevirtual 48), (122, .pop), (123, .iconst (-1)), (124, .ireturn), (125, .iload_n 2), (126, .aload_n 0), (127, .aload_n 0), (128, .getfield 28), (131, .invokevirtual 44), (134, .bipush 48), (136, .isub), (137, .iadd), (138, .istore_n 2), (139, .aload_n 0), (140, .dup), (141, .getfield 28), (144, .iconst 1), (145, .iadd), (146, .putfield 28), (149, .iload_n 2), (150, .sipush 1000), (153, .if_icmp .gt 25), (156, .aload_n 0), (157, .getfield 25), (160, .ifCond .le 26), (163, .iload_n 2), (164, .aload_n 0), (165, .getfield 18), (168, .aload_n 0), (169, .getfield 25), (172, .iconst 1), (173, .isub), (174, .iaload), (175, .if_icmp .lt 11), (178, .aload_n 0), (179, .iload_n 1), (180, .invokevirtual 48), (183, .pop), (184, .iconst (-1)), (185, .ireturn), (186, .iload_n 2), (187, .ireturn)]
def ab_c48 : List (Nat × Instr) := [(0, .aload_n 0), (1, .iload_n 1), (2, .putfield 31), (5, .iconst 0), (6, .ireturn)]
def ab_c49 : List (Nat × Instr) := [(0, .aload_n 0), (1, .iload_n 1), (2, .invokevirtual 44), (5, .bipush 48), (7, .if_icmp .lt 17), (10, .aload_n 0), (11, .iload_n 1), (12, .invokevirtual 44), (15, .bipush 57), (17, .if_icmp .gt 7), (20, .iconst 1), (21, .goto 4), (24, .iconst 0), (25, .ireturn)]
def ab_c50 : List (Nat × Instr) := [(0, .iload_n 1), (1, .ifCond .lt 20), (4, .iload_n 1), (5, .aload_n 0), (6, .getfield 21), (9, .if_icmp .ge 12), (12, .aload_n 0), (13, .getfield 11), (16, .iload_n 1), (17, .iaload), (18, .goto 4), (21, .iconst (-1)), (22, .ireturn)]
def ab_c51 : List (Nat × Instr) := [(0, .iconst 0), (1, .istore 6), (3, .iload 6), (5, .aload_n 0), (6, .getfield 25), (9, .if_icmp .ge 42), (12, .ldc2_w 59), (15, .lload_n 1), (16, .lmul), (17, .iload 5), (19, .i2l), (20, .lload_n 3), (21, .lmul), (22, .ladd), (23, .aload_n 0), (24, .getfield 18), (27, .iload 6), (29, .iaload), (30, .i2l), (31, .lload_n 3), (32, .lmul), (33, .lcmp), (34, .ifCond .lt 11), (37, .aload_n 0), (38, .getfield 15), (41, .iload 6), (43, .iaload), (44, .ireturn), (45, .iinc 6 1), (48, .goto (-45)), (51, .bipush 6), (53, .ireturn)]
def ab_c52 : List (Nat × Instr) := [(0, .aload_n 0), (1, .invokespecial 3), (4, .aload_n 0), (5, .sipush 192), (8, .newarray .int), (10, .putfield 11), (13, .aload_n 0), (14, .iconst 4), (15, .newarray .int), (17, .dup), (18, .iconst 0), (19, .iconst (-1)), (20, .iastore), (21, .dup), (22, .iconst 1), (23, .iconst (-1)), (24, .iastore), (25, .dup), (26, .iconst 2), (27, .iconst (-1)), (28, .iastore), (29, .dup), (30, .iconst 3), (31, .iconst (-1)), (32, .iastore), (33, .putfield 15), (36, .aload_n 0), (37, .iconst 4), (38, .newarray .int), (40, .putfield 18), (43, .return_)]
def ab_c53 : List (Nat × Instr) := [(0, .aload_n 0), (1, .getfield 15), (4, .iload_n 1), (5, .iaload), (6, .iconst (-1)), (7, .if_icmp .ne 7), (10, .iconst 1), (11, .goto 4), (14, .iconst 0), (15, .ireturn)]
def ab_c54 : List (Nat × Instr) := [(0, .aload_n 0), (1, .getfield 15), (4, .iload_n 1), (5, .iload_n 2), (6, .iastore), (7, .aload_n 0), (8, .getfield 18), (11, .iload_n 1), (12, .iload_n 3), (13, .iastore), (14, .iconst 0), (15, .istore 4), (17, .iload 4), (19, .bipush 48), (21, .if_icmp .ge 22), (24, .aload_n 0), (25, .getfield 11), (28, .bipush 48), (30, .iload_n 1), (31, .imul), (32, .iload 4), (34, .iadd), (35, .iconst 0), (36, .iastore), (37, .iinc 4 1), (40, .goto (-23)), (43, .return_)]
def ab_c55 : List (Nat × Instr) := [(0, .aload_n 0), (1, .getfield 15), (4, .iload_n 1), (5, .iconst (-1)), (6, .iastore), (7, .aload_n 0), (8, .getfield 18), (11, .iload_n 1), (12, .iconst 0), (13, .iastore), (14, .return_)]
def ab_c56 : List (Nat × Instr) := [(0, .aload_n 0), (1, .iload_n 1), (2, .invokevirtual 21), (5, .ifCond .eq 5), (8, .iconst 1), (9, .ireturn), (10, .aload_n 0), (11, .getfield 15), (14, .iload_n 1), (15, .iaload), (16, .iload_n 2), (17, .if_icmp .eq 5), (20, .iconst 3), (21, .ireturn), (22, .aload_n 0), (23, .iload_n 1), (24, .iload_n 3), (25, .iconst 1), (26, .invokevirtual 25), (29, .ifCond .eq 7), (32, .iconst 0), (33, .goto 4), (36, .iconst 2), (37, .ireturn)]
def ab_c57 : List (Nat × Instr) := [(0, .iload_n 2), (1, .ifCond .lt 33), (4, .iload_n 3), (5, .ifCond .lt 29), (8, .iload_n 3), (9, .aload_n 0), (10, .getfield 18), (13, .iload_n 1), (14, .iaload), (15, .if_icmp .gt 19), (18, .iload_n 2), (19, .aload_n 0), (20, .getfield 18), (23, .iload_n 1), (24, .iaload), (25, .iload_n 3), (26, .isub), (27, .if_icmp .gt 7), (30, .iconst 1), (31, .goto 4), (34, .iconst 0), (35, .ireturn)]
def ab_c58 : List (Nat × Instr) := [(0, .aload_n 0), (1, .getfield 11), (4, .bipush 48), (6, .iload_n 1), (7, .imul), (8, .iload_n 2), (9, .iadd), (10, .iaload), (11, .ireturn)]
def ab_c59 : List (Nat × Instr) := [(0, .aload_n 0), (1, .getfield 11), (4, .bipush 48), (6, .iload_n 1), (7, .imul), (8, .iload_n 2), (9, .iadd), (10, .aload_n 0), (11, .getfield 15), (14, .iload_n 1), (15, .iaload), (16, .iload_n 3), (17, .invokestatic 29), (20, .iastore), (21, .return_)]
def ab_c60 : List (Nat × Instr) := [(0, .iload_n 0), (1, .ifCond .ne 6), (4, .iload_n 1), (5, .i2b), (6, .ireturn), (7, .iload_n 0), (8, .iconst 1), (9, .if_icmp .ne 8), (12, .iload_n 1), (13, .i2s), (14, .goto 4), (17, .iload_n 1), (18, .ireturn)]
def ab_c61 : List (Nat × Instr) := [(0, .aload_n 0), (1, .getfield 11), (4, .bipush 48), (6, .iload_n 1), (7, .imul), (8, .iload_n 2), (9, .iadd), (10, .aload_n 0), (11, .getfield 11), (14, .bipush 48), (16, .iload_n 3), (17, .imul), (18, .iload 4), (20, .iadd), (21, .iload 5), (23, .invokestatic 33), (26, .return_)]
def ab_c62 : List (Nat × Instr) := [(0, .aload_n 0), (1, .invokespecial 3), (4, .aload_n 0), (5, .iconst 0), (6, .putfield 9), (9, .aload_n 0), (10, .iconst (-1)), (11, .putfield 15), (14, .aload_n 0), (15, .lconst 0), (16, .putfield 19), (19, .aload_n 0), (20, .lconst 1), (21, .putfield 23), (24, .return_)]
def ab_c63 : List (Nat × Instr) := [(0, .aload_n 0), (1, .getfield 9), (4, .ifCond .eq 4), (7, .return_), (8, .aload_n 0), (9, .iconst 1), (10, .putfield 9), (13, .aload_n 0), (14, .iconst (-1)), (15, .putfield 15), (18, .iconst 0), (19, .istore_n 3), (20, .iload_n 3), (21, .bipush 48), (23, .if_icmp .ge 34), (26, .aload_n 1), (27, .iload_n 3), (28, .invokestatic 26), (31, .ifCond .eq 20), (34, .aload_n 2), (35, .aload_n 1), (36, .iload_n 3), (37, .iconst 0), (38, .invokevirtual 30), (41, .aload_n 2), (42, .invokevirtual 36), (45, .aload_n 0), (46, .iload_n 3), (47, .aload_n 2), (48, .invokevirtual 39), (51, .iinc 3 1), (54, .goto (-34)), (57, .return_)]
def ab_c64 : List (Nat × Instr) := [(0, .iload_n 1), (1, .iconst 4), (2, .idiv), (3, .istore_n 2), (4, .aload_n 0), (5, .getfield 43), (8, .iload_n 2), (9, .iaload), (10, .istore_n 3), (11, .aload_n 0), (12, .getfield 47), (15, .iload_n 1), (16, .iaload), (17, .iconst (-1)), (18, .if_icmp .ne 20), (21, .iload_n 3), (22, .iconst (-1)), (23, .if_icmp .eq 15), (26, .iload_n 3), (27, .aload_n 0), (28, .getfield 50), (31, .iload_n 1), (32, .iconst 4), (33, .irem), (34, .iaload), (35, .if_icmp .eq 5), (38, .iconst 0), (39, .ireturn), (40, .iconst 0), (41, .istore 4), (43, .iload 4), (45, .iload_n 2), (46, .if_icmp .ge 27), (49, .aload_n 0), (50, .getfield 53), (53, .iload 4), (55, .iaload), (56, .aload_n 0), (57, .getfield 53), (60, .iload_n 2), (61, .iaload), (62, .if_icmp .ne 5), (65, .iconst 0), (66, .ireturn), (67, .iinc 4 1), (70, .goto (-27)), (73, .iconst 1), (74, .ireturn)]
def ab_c65 : List (Nat × Instr) := [(0, .aload_n 0), (1, .getfield 15), (4, .iconst (-1)), (5, .if_icmp .eq 25), (8, .aload_n 2), (9, .getfield 56), (12, .aload_n 0), (13, .getfield 23), (16, .lmul), (17, .aload_n 0), (18, .getfield 19), (21, .aload_n 2), (22, .invokevirtual 59), (25, .lmul), (26, .lcmp), (27, .ifCond .ge 24), (30, .aload_n 0), (31, .iload_n 1), (32, .putfield 15), (35, .aload_n 0), (36, .aload_n 2), (37, .getfield 56), (40, .putfield 19), (43, .aload_n 0), (44, .aload_n 2), (45, .invokevirtual 59), (48, .putfield 23), (51, .return_)]
def ab_c66 : List (Nat × Instr) := [(0, .aload_n 0), (1, .invokespecial 3), (4, .aload_n 0), (5, .bipush 100), (7, .newarray .int), (9, .putfield 11), (12, .aload_n 0), (13, .bipush 100), (15, .newarray .int), (17, .putfield 15), (20, .aload_n 0), (21, .bipush 100), (23, .newarray .int), (25, .putfield 18), (28, .aload_n 0), (29, .iconst 0), (30, .putfield 21), (33, .aload_n 0), (34, .iconst 0), (35, .putfield 25), (38, .aload_n 0), (39, .sipush 999), (42, .putfield 28), (45, .return_)]
def ab_c67 : List (Nat × Instr) := [(0, .iload_n 1), (1, .aload_n 0), (2, .getfield 25), (5, .if_icmp .lt 14), (8, .iload_n 1), (9, .sipush 999), (12, .if_icmp .gt 7), (15, .iconst 1), (16, .goto 4), (19, .iconst 0), (20, .ireturn)]
def ab_c68 : List (Nat × Instr) := [(0, .aload_n 0), (1, .getfield 21), (4, .bipush 100), (6, .if_icmp .lt 7), (9, .iconst 1), (10, .goto 4), (13, .iconst 0), (14, .ireturn)]
def ab_c69 : List (Nat × Instr) := [(0, .aload_n 0), (1, .invokevirtual 31), (4, .ifCond .eq 4), (7, .return_), (8, .aload_n 0), (9, .getfield 11), (12, .aload_n 0), (13, .getfield 21), (16, .iload_n 1), (17, .iastore), (18, .aload_n 0), (19, .getfield 15), (22, .aload_n 0), (23, .getfield 21), (26, .iload_n 2), (27, .iastore), (28, .aload_n 0), (29, .getfield 18), (32, .aload_n 0), (33, .getfield 21), (36, .iload_n 3), (37, .iastore), (38, .aload_n 0), (39, .dup), (40, .getfield 21), (43, .iconst 1), (44, .iadd), (45, .putfield 21), (48, .aload_n 0), (49, .iload_n 3), (50, .putfield 25), (53, .return_)]
def ab_c70 : List (Nat × Instr) := [(0, .iconst 0), (1, .istore_n 3), (2, .iload_n 3), (3, .bipush 48), (5, .if_icmp .ge 17), (8, .aload_n 1), (9, .iload_n 3), (10, .iconst (-1)), (11, .iastore), (12, .aload_n 2), (13, .iload_n 3), (14, .iconst (-1)), (15, .iastore), (16, .iinc 3 1), (19, .goto (-17)), (22, .iconst 0), (23, .istore_n 3), (24, .iload_n 3), (25, .aload_n 0), (26, .getfield 21), (29, .if_icmp .ge 45), (32, .aload_n 0), (33, .getfield 18), (36, .iload_n 3), (37, .iaload), (38, .aload_n 0), (39, .getfield 28), (42, .if_icmp .gt 26), (45, .aload_n 1), (46, .aload_n 0), (47, .getfield 11), (50, .iload_n 3), (51, .iaload), (52, .aload_n 0), (53, .getfield 15), (56, .iload_n 3), (57, .iaload), (58, .iastore), (59, .aload_n 2), (60, .aload_n 0), (61, .getfield 11), (64, .iload_n 3), (65, .iaload), (66, .iload_n 3), (67, .iastore), (68, .iinc 3 1), (71, .goto (-47)), (74, .return_)]
def ab_c71 : List (Nat × Instr) := [(0, .aload_n 0), (1, .invokespecial 3), (4, .aload_n 0), (5, .iconst 4), (6, .newarray .int), (8, .putfield 9), (11, .aload_n 0), (12, .iconst 4), (13, .newarray .int), (15, .putfield 15), (18, .aload_n 0), (19, .iconst 0), (20, .putfield 18), (23, .aload_n 0), (24, .iconst 0), (25, .putfield 22), (28, .return_)]
def ab_c72 : List (Nat × Instr) := [(0, .aload_n 0), (1, .iconst 0), (2, .putfield 18), (5, .aload_n 0), (6, .iconst 0), (7, .putfield 22), (10, .iconst 0), (11, .istore_n 3), (12, .iload_n 3), (13, .iconst 4), (14, .if_icmp .ge 21), (17, .aload_n 0), (18, .getfield 9), (21, .iload_n 3), (22, .aload_n 1), (23, .getfield 25), (26, .iload_n 3), (27, .iaload), (28, .iastore), (29, .iinc 3 1), (32, .goto (-20)), (35, .iconst 1), (36, .istore_n 3), (37, .iload_n 3), (38, .iconst 4), (39, .if_icmp .ge 86), (42, .aload_n 0), (43, .aload_n 1), (44, .aload_n 2), (45, .invokevirtual 30), (48, .istore 4), (50, .iload 4), (52, .iconst (-1)), (53, .if_icmp .eq 66), (56, .aload_n 0), (57, .getfield 15), (60, .aload_n 0), (61, .getfield 18), (64, .iload 4), (66, .iastore), (67, .aload_n 0), (68, .dup), (69, .getfield 18), (72, .iconst 1), (73, .iadd), (74, .putfield 18), (77, .aload_n 0), (78, .dup), (79, .getfield 22), (82, .aload_n 2), (83, .iload 4), (85, .iconst 4), (86, .irem), (87, .iaload), (88, .iadd), (89, .putfield 22), (92, .aload_n 0), (93, .aload_n 0), (94, .getfield 9), (97, .aload_n 1), (98, .getfield 34), (101, .iload 4), (103, .iconst 4), (104, .idiv), (105, .iaload), (106, .iaload), (107, .aload_n 0), (108, .getfield 9), (111, .iload 4), (113, .iconst 4), (114, .irem), (115, .iaload), (116, .invokevirtual 37), (119, .iinc 3 1), (122, .goto (-85)), (125, .return_)]
def ab_c73 : List (Nat × Instr) := [(0, .iconst (-1)), (1, .istore_n 3), (2, .iconst 0), (3, .istore 4), (5, .iload 4), (7, .bipush 48), (9, .if_icmp .ge 77), (12, .aload_n 1), (13, .getfield 34), (16, .iload 4), (18, .iconst 4), (19, .idiv), (20, .iaload), (21, .istore 5), (23, .aload_n 0), (24, .getfield 9), (27, .iload 4), (29, .iconst 4), (30, .irem), (31, .iaload), (32, .istore 6), (34, .iload 5), (36, .iconst (-1)), (37, .if_icmp .eq 43), (40, .iload 6), (42, .iconst (-1)), (43, .if_icmp .eq 37), (46, .aload_n 0), (47, .getfield 9), (50, .iload 5), (52, .iaload), (53, .iload 6), (55, .if_icmp .eq 25), (58, .iload_n 3), (59, .iconst (-1)), (60, .if_icmp .eq 17), (63, .aload_n 2), (64, .iload 4), (66, .iconst 4), (67, .irem), (68, .iaload), (69, .aload_n 2), (70, .iload_n 3), (71, .iconst 4), (72, .irem), (73, .iaload), (74, .if_icmp .ge 6), (77, .iload 4), (79, .istore_n 3), (80, .iinc 4 1), (83, .goto (-78)), (86, .iload_n 3), (87, .ireturn)]
def ab_c74 : List (Nat × Instr) := [(0, .iconst 0), (1, .istore_n 3), (2, .iload_n 3), (3, .iconst 4), (4, .if_icmp .ge 26), (7, .aload_n 0), (8, .getfield 9), (11, .iload_n 3), (12, .iaload), (13, .iload_n 2), (14, .if_icmp .ne 10), (17, .aload_n 0), (18, .getfield 9), (21, .iload_n 3), (22, .iload_n 1), (23, .iastore), (24, .iinc 3 1), (27, .goto (-25)), (30, .return_)]
def ab_c75 : List (Nat × Instr) := [(0, .aload_n 0), (1, .invokespecial 1), (4, .aload_n 0), (5, .new 7), (8, .dup), (9, .invokespecial 9), (12, .putfield 10), (15, .aload_n 0), (16, .new 16), (19, .dup), (20, .invokespecial 18), (23, .putfield 19), (26, .aload_n 0), (27, .new 16), (30, .dup), (31, .invokespecial 18), (34, .putfield 23), (37, .aload_n 0), (38, .new 26), (41, .dup), (42, .invokespecial 28), (45, .putfield 29), (48, .aload_n 0), (49, .new 33), (52, .dup), (53, .invokespecial 35), (56, .putfield 36), (59, .aload_n 0), (60, .new 40), (63, .dup), (64, .invokespecial 42), (67, .putfield 43), (70, .aload_n 0), (71, .new 47), (74, .dup), (75, .invokespecial 49), (78, .putfield 50), (81, .aload_n 0), (82, .new 54), (85, .dup), (86, .invokespecial 56), (89, .putfield 57), (92, .aload_n 0), (93, .bipush 48), (95, .newarray .int), (97, .putfield 61), (100, .aload_n 0), (101, .iconst 4), (102, .newarray .int), (104, .dup), (105, .iconst 0), (106, .iconst 1), (107, .iastore), (108, .dup), (109, .iconst 1), (110, .iconst 1), (111, .iastore), (112, .dup), (113, .iconst 2), (114, .iconst 1), (115, .iastore), (116, .dup), (117, .iconst 3), (118, .iconst 1), (119, .iastore), (120, .putfield 65), (123, .aload_n 0), (124, .iconst 1), (125, .putfield 68), (128, .aload_n 0), (129, .iconst 0), (130, .putfield 72), (133, .return_)]
def ab_c76 : List (Nat × Instr) := [(0, .iload_n 1), (1, .invokestatic 76), (4, .ifCond .eq 33), (7, .iload_n 2), (8, .invokestatic 80), (11, .ifCond .eq 26), (14, .iload_n 3), (15, .iconst (-1)), (16, .if_icmp .lt 21), (19, .iload_n 3), (20, .bipush 100), (22, .if_icmp .gt 15), (25, .aload_n 0), (26, .getfield 10), (29, .iload 4), (31, .invokevirtual 83), (34, .ifCond .ne 6), (37, .bipush (-2)), (39, .ireturn), (40, .aload_n 0), (41, .getfield 10), (44, .invokevirtual 86), (47, .ifCond .eq 6), (50, .bipush (-4)), (52, .ireturn), (53, .aload_n 0), (54, .getfield 10), (57, .iconst 4), (58, .iload_n 1), (59, .imul), (60, .iload_n 2), (61, .iadd), (62, .iload_n 3), (63, .iload 4), (65, .invokevirtual 90), (68, .aload_n 0), (69, .iconst 1), (70, .putfield 68), (73, .aload_n 0), (74, .getfield 10), (77, .getfield 94), (80, .ireturn)]
def ab_c77 : List (Nat × Instr) := [(0, .iload_n 1), (1, .invokestatic 97), (4, .ifCond .eq 14), (7, .aload_n 0), (8, .getfield 10), (11, .iload_n 2), (12, .invokevirtual 83), (15, .ifCond .ne 6), (18, .bipush (-2)), (20, .ireturn), (21, .aload_n 0), (22, .getfield 57), (25, .iload_n 1), (26, .invokevirtual 100), (29, .ifCond .eq 9), (32, .aload_n 0), (33, .iconst 1), (34, .invokevirtual 103), (37, .ireturn), (38, .aload_n 0), (39, .getfield 57), (42, .getfield 107), (45, .iload_n 1), (46, .iaload), (47, .iconst 3), (48, .idiv), (49, .istore_n 3), (50, .iconst 0), (51, .istore 4), (53, .iload 4), (55, .iload_n 3), (56, .if_icmp .ge 68), (59, .aload_n 0), (60, .getfield 57), (63, .iload_n 1), (64, .iconst 3), (65, .iload 4), (67, .imul), (68, .invokevirtual 110), (71, .istore 5), (73, .aload_n 0), (74, .getfield 57), (77, .iload_n 1), (78, .iconst 3), (79, .iload 4), (81, .imul), (82, .iconst 1), (83, .iadd), (84, .invokevirtual 110), (87, .istore 6), (89, .aload_n 0), (90, .iload 5), (92, .iload 6), (94, .aload_n 0), (95, .getfield 57), (98, .iload_n 1), (99, .iconst 3), (100, .iload 4), (102, .imul), (103, .iconst 2), (104, .iadd), (105, .invokevirtual 110), (108, .iload_n 2), (109, .invokevirtual 114), (112, .ifCond .ge 6), (115, .iload 4), (117, .ireturn), (118, .iinc 4 1), (121, .goto (-68)), (124, .iload_n 3), (125, .ireturn)]
def ab_c78 : List (Nat × Instr) := [(0, .iload_n 1), (1, .ifCond .lt 10), (4, .iload_n 1), (5, .sipush 999), (8, .if_icmp .le 6), (11, .bipush (-2)), (13, .ireturn), (14, .aload_n 0), (15, .getfield 10), (18, .getfield 118), (21, .istore_n 2), (22, .aload_n 0), (23, .getfield 10), (26, .iload_n 1), (27, .putfield 118), (30, .aload_n 0), (31, .iconst 1), (32, .putfield 68), (35, .iload_n 2), (36, .ireturn)]
def ab_c79 : List (Nat × Instr) := [(0, .iload_n 1), (1, .invokestatic 76), (4, .ifCond .eq 10), (7, .iload_n 2), (8, .invokestatic 80), (11, .ifCond .ne 6), (14, .bipush (-2)), (16, .ireturn), (17, .aload_n 0), (18, .invokevirtual 121), (21, .aload_n 0), (22, .getfield 19), (25, .getfield 124), (28, .iconst 4), (29, .iload_n 1), (30, .imul), (31, .iload_n 2), (32, .iadd), (33, .iaload), (34, .ireturn)]
def ab_c80 : List (Nat × Instr) := [(0, .iload_n 1), (1, .ifCond .ne 10), (4, .iload_n 2), (5, .invokestatic 76), (8, .ifCond .ne 15), (11, .iload_n 1), (12, .iconst 1), (13, .if_icmp .ne 14), (16, .iload_n 2), (17, .invokestatic 80), (20, .ifCond .eq 7), (23, .iconst 1), (24, .goto 4), (27, .iconst 0), (28, .istore_n 3), (29, .iload_n 3), (30, .ifCond .ne 6), (33, .bipush (-2)), (35, .ireturn), (36, .aload_n 0), (37, .invokevirtual 121), (40, .iload_n 1), (41, .ifCond .ne 15), (44, .aload_n 0), (45, .getfield 19), (48, .getfield 127), (51, .iload_n 2), (52, .iaload), (53, .goto 12), (56, .aload_n 0), (57, .getfield 19), (60, .getfield 130), (63, .iload_n 2), (64, .iaload), (65, .ireturn)]
def ab_c81 : List (Nat × Instr) := [(0, .iload_n 1), (1, .invokestatic 80), (4, .ifCond .eq 10), (7, .iload_n 2), (8, .invokestatic 133), (11, .ifCond .ne 9), (14, .bipush (-2)), (16, .invokestatic 136), (19, .lreturn), (20, .aload_n 0), (21, .invokevirtual 121), (24, .aload_n 0), (25, .getfield 19), (28, .getfield 130), (31, .iload_n 1), (32, .iaload), (33, .iconst (-1)), (34, .if_icmp .ne 9), (37, .bipush (-3)), (39, .invokestatic 136), (42, .lreturn), (43, .aload_n 0), (44, .getfield 19), (47, .getfield 140), (50, .iload_n 1), (51, .laload), (52, .aload_n 0), (53, .getfield 19), (56, .getfield 144), (59, .iload_n 2), (60, .invokestatic 148), (63, .lreturn)]
def ab_c82 : List (Nat × Instr) := [(0, .iload_n 1), (1, .invokestatic 76), (4, .ifCond .eq 10), (7, .iload_n 2), (8, .invokestatic 133), (11, .ifCond .ne 9), (14, .bipush (-2)), (16, .invokestatic 136), (19, .lreturn), (20, .aload_n 0), (21, .invokevirtual 121), (24, .aload_n 0), (25, .getfield 19), (28, .getfield 152), (31, .iload_n 1), (32, .iaload), (33, .ifCond .ne 9), (36, .bipush (-3)), (38, .invokestatic 136), (41, .lreturn), (42, .aload_n 0), (43, .getfield 19), (46, .getfield 155), (49, .iload_n 1), (50, .laload), (51, .aload_n 0), (52, .getfield 19), (55, .invokevirtual 158), (58, .iload_n 2), (59, .invokestatic 148), (62, .lreturn)]
def ab_c83 : List (Nat × Instr) := [(0, .iload_n 1), (1, .invokestatic 76), (4, .ifCond .eq 17), (7, .iload_n 2), (8, .invokestatic 80), (11, .ifCond .eq 10), (14, .iload_n 3), (15, .invokestatic 133), (18, .ifCond .ne 9), (21, .bipush (-2)), (23, .invokestatic 136), (26, .lreturn), (27, .aload_n 0), (28, .invokevirtual 121), (31, .iconst 4), (32, .iload_n 1), (33, .imul), (34, .iload_n 2), (35, .iadd), (36, .istore 4), (38, .aload_n 0), (39, .getfield 19), (42, .getfield 124), (45, .iload 4), (47, .iaload), (48, .iconst (-1)), (49, .if_icmp .ne 9), (52, .bipush (-3)), (54, .invokestatic 136), (57, .lreturn), (58, .aload_n 0), (59, .getfield 19), (62, .iload 4), (64, .invokevirtual 162), (67, .aload_n 0), (68, .getfield 19), (71, .invokevirtual 158), (74, .iload_n 3), (75, .invokestatic 148), (78, .lreturn)]
def ab_c84 : List (Nat × Instr) := [(0, .iload_n 1), (1, .invokestatic 80), (4, .ifCond .eq 10), (7, .iload_n 2), (8, .invokestatic 133), (11, .ifCond .ne 9), (14, .bipush (-2)), (16, .invokestatic 136), (19, .lreturn), (20, .aload_n 0), (21, .invokevirtual 121), (24, .aload_n 0), (25, .getfield 19), (28, .getfield 130), (31, .iload_n 1), (32, .iaload), (33, .iload_n 1), (34, .if_icmp .eq 9), (37, .bipush (-3)), (39, .invokestatic 136), (42, .lreturn), (43, .aload_n 0), (44, .getfield 19), (47, .aload_n 0), (48, .getfield 19), (51, .getfield 165), (54, .iload_n 1), (55, .iaload), (56, .invokevirtual 168), (59, .aload_n 0), (60, .getfield 19), (63, .invokevirtual 158), (66, .iload_n 2), (67, .invokestatic 148), (70, .lreturn)]
def ab_c85 : List (Nat × Instr) := [(0, .iload_n 1), (1, .invokestatic 76), (4, .ifCond .eq 10), (7, .iload_n 2), (8, .invokestatic 133), (11, .ifCond .ne 6), (14, .bipush (-2)), (16, .ireturn), (17, .aload_n 0), (18, .invokevirtual 121), (21, .aload_n 0), (22, .getfield 19), (25, .getfield 152), (28, .iload_n 1), (29, .iaload), (30, .ifCond .ne 6), (33, .bipush (-3)), (35, .ireturn), (36, .iconst 0), (37, .istore_n 3), (38, .iconst 0), (39, .istore 4), (41, .iload 4), (43, .bipush 12), (45, .if_icmp .ge 45), (48, .aload_n 0), (49, .getfield 19), (52, .getfield 127), (55, .iload 4), (57, .iaload), (58, .aload_n 0), (59, .getfield 19), (62, .getfield 127), (65, .iload_n 1), (66, .iaload), (67, .if_icmp .ne 17), (70, .aload_n 0), (71, .iload 4), (73, .iload_n 1), (74, .iload_n 2), (75, .invokevirtual 171), (78, .ifCond .eq 6), (81, .iinc 3 1), (84, .iinc 4 1), (87, .goto (-46)), (90, .iconst 1), (91, .iload_n 3), (92, .iadd), (93, .ireturn)]
def ab_c86 : List (Nat × Instr) := [(0, .iload_n 1), (1, .ifCond .lt 10), (4, .iload_n 1), (5, .sipush 255), (8, .if_icmp .le 6), (11, .bipush (-2)), (13, .ireturn), (14, .aload_n 0), (15, .getfield 50), (18, .invokevirtual 175), (21, .ifCond .eq 6), (24, .bipush (-4)), (26, .ireturn), (27, .aload_n 0), (28, .getfield 50), (31, .iload_n 1), (32, .invokevirtual 176), (35, .aload_n 0), (36, .getfield 50), (39, .getfield 179), (42, .ireturn)]
def ab_c87 : List (Nat × Instr) := [(0, .aload_n 0), (1, .getfield 50), (4, .invokevirtual 182), (7, .ireturn)]
def ab_c88 : List (Nat × Instr) := [(0, .aload_n 0), (1, .getfield 50), (4, .getfield 186), (7, .ireturn)]
def ab_c89 : List (Nat × Instr) := [(0, .iload_n 1), (1, .invokestatic 76), (4, .ifCond .ne 6), (7, .bipush (-2)), (9, .ireturn), (10, .aload_n 0), (11, .invokevirtual 121), (14, .aload_n 0), (15, .getfield 50), (18, .getfield 186), (21, .iconst (-1)), (22, .if_icmp .ne 15), (25, .aload_n 0), (26, .getfield 19), (29, .getfield 152), (32, .iload_n 1), (33, .iaload), (34, .ifCond .ne 6), (37, .bipush (-3)), (39, .ireturn), (40, .aload_n 0), (41, .iload_n 1), (42, .iconst 0), (43, .invokevirtual 189), (46, .ireturn)]
def ab_c90 : List (Nat × Instr) := [(0, .aload_n 0), (1, .iload_n 1), (2, .invokevirtual 192), (5, .istore_n 2), (6, .iload_n 2), (7, .ifCond .ge 5), (10, .iload_n 2), (11, .ireturn), (12, .aload_n 0), (13, .getfield 50), (16, .aload_n 0), (17, .getfield 19), (20, .iload_n 1), (21, .invokevirtual 195), (24, .aload_n 0), (25, .getfield 19), (28, .getfield 152), (31, .iload_n 1), (32, .iaload), (33, .invokestatic 198), (36, .i2l), (37, .iconst 0), (38, .invokevirtual 203), (41, .istore_n 3), (42, .iload_n 3), (43, .iload_n 2), (44, .if_icmp .eq 7), (47, .iconst 1), (48, .goto 4), (51, .iconst 0), (52, .ireturn)]
def ab_c91 : List (Nat × Instr) := [(0, .iload_n 1), (1, .invokestatic 80), (4, .ifCond .eq 17), (7, .iload_n 2), (8, .sipush (-1000)), (11, .if_icmp .lt 10), (14, .iload_n 2), (15, .sipush 1000), (18, .if_icmp .le 6), (21, .bipush (-2)), (23, .ireturn), (24, .aload_n 0), (25, .invokevirtual 121), (28, .aload_n 0), (29, .getfield 50), (32, .getfield 186), (35, .iconst (-1)), (36, .if_icmp .ne 16), (39, .aload_n 0), (40, .getfield 19), (43, .getfield 130), (46, .iload_n 1), (47, .iaload), (48, .iload_n 1), (49, .if_icmp .eq 6), (52, .bipush (-3)), (54, .ireturn), (55, .iconst 0), (56, .istore_n 3), (57, .iconst 0), (58, .istore 4), (60, .iload 4), (62, .bipush 12), (64, .if_icmp .ge 43), (67, .aload_n 0), (68, .getfield 19), (71, .getfield 127), (74, .iload 4), (76, .iaload), (77, .iload_n 1), (78, .if_icmp .ne 23), (81, .aload_n 0), (82, .iload 4), (84, .iload_n 2), (85, .invokevirtual 189), (88, .aload_n 0), (89, .iload 4), (91, .iconst 0), (92, .invokevirtual 189), (95, .if_icmp .eq 6), (98, .iinc 3 1), (101, .iinc 4 1), (104, .goto (-44)), (107, .iload_n 3), (108, .ireturn)]
def ab_c92 : List (Nat × Instr) := [(0, .iload_n 1), (1, .invokestatic 76), (4, .ifCond .eq 22), (7, .iload_n 2), (8, .invokestatic 76), (11, .ifCond .eq 15), (14, .iload_n 1), (15, .iload_n 2), (16, .if_icmp .eq 10), (19, .iload_n 3), (20, .invokestatic 133), (23, .ifCond .ne 9), (26, .bipush (-2)), (28, .invokestatic 136), (31, .lreturn), (32, .aload_n 0), (33, .invokevirtual 121), (36, .aload_n 0), (37, .getfield 19), (40, .iload_n 1), (41, .iload_n 2), (42, .invokevirtual 207), (45, .ifCond .ne 9), (48, .bipush (-3)), (50, .invokestatic 136), (53, .lreturn), (54, .aload_n 0), (55, .getfield 19), (58, .iload_n 1), (59, .iload_n 2), (60, .invokevirtual 211), (63, .aload_n 0), (64, .getfield 19), (67, .invokevirtual 158), (70, .iload_n 3), (71, .invokestatic 148), (74, .lreturn)]
def ab_c93 : List (Nat × Instr) := [(0, .iload_n 1), (1, .ifCond .lt 8), (4, .iload_n 1), (5, .iconst 3), (6, .if_icmp .le 9), (9, .bipush (-2)), (11, .invokestatic 136), (14, .lreturn), (15, .aload_n 0), (16, .invokevirtual 121), (19, .aload_n 0), (20, .getfield 19), (23, .invokevirtual 215), (26, .aload_n 0), (27, .getfield 19), (30, .getfield 218), (33, .iconst (-1)), (34, .if_icmp .ne 9), (37, .bipush (-3)), (39, .invokestatic 136), (42, .lreturn), (43, .iload_n 1), (44, .iconst 2), (45, .if_icmp .lt 28), (48, .iload_n 1), (49, .iconst 2), (50, .if_icmp .ne 14), (53, .aload_n 0), (54, .getfield 19), (57, .getfield 218), (60, .i2l), (61, .goto 11), (64, .aload_n 0), (65, .getfield 19), (68, .getfield 221), (71, .i2l), (72, .lreturn), (73, .aload_n 0), (74, .getfield 19), (77, .getfield 224), (80, .aload_n 0), (81, .getfield 19), (84, .invokevirtual 158), (87, .iload_n 1), (88, .invokestatic 148), (91, .lreturn)]
def ab_c94 : List (Nat × Instr) := [(0, .iload_n 1), (1, .ifCond .lt 8), (4, .iload_n 1), (5, .iconst 3), (6, .if_icmp .le 9), (9, .bipush (-2)), (11, .invokestatic 136), (14, .lreturn), (15, .aload_n 0), (16, .invokevirtual 121), (19, .aload_n 0), (20, .getfield 29), (23, .aload_n 0), (24, .getfield 19), (27, .aload_n 0), (28, .getfield 23), (31, .invokevirtual 227), (34, .aload_n 0), (35, .getfield 29), (38, .getfield 231), (41, .iconst (-1)), (42, .if_icmp .ne 9), (45, .bipush (-3)), (47, .invokestatic 136), (50, .lreturn), (51, .iload_n 1), (52, .iconst 2), (53, .if_icmp .ge 31), (56, .iload_n 1), (57, .ifCond .ne 16), (60, .aload_n 0), (61, .getfield 29), (64, .getfield 231), (67, .iconst 4), (68, .idiv), (69, .i2l), (70, .goto 13), (73, .aload_n 0), (74, .getfield 29), (77, .getfield 231), (80, .iconst 4), (81, .irem), (82, .i2l), (83, .lreturn), (84, .aload_n 0), (85, .getfield 29), (88, .getfield 234), (91, .aload_n 0), (92, .getfield 29), (95, .getfield 237), (98, .iload_n 1), (99, .iconst 2), (100, .isub), (101, .invokestatic 148), (104, .lreturn)]
def ab_c95 : List (Nat × Instr) := [(0, .iload_n 1), (1, .invokestatic 76), (4, .ifCond .eq 10), (7, .iload_n 2), (8, .invokestatic 80), (11, .ifCond .ne 6), (14, .bipush (-2)), (16, .ireturn), (17, .aload_n 0), (18, .invokevirtual 121), (21, .aload_n 0), (22, .getfield 19), (25, .getfield 124), (28, .iconst 4), (29, .iload_n 1), (30, .imul), (31, .iload_n 2), (32, .iadd), (33, .iaload), (34, .iconst (-1)), (35, .if_icmp .ne 6), (38, .bipush (-3)), (40, .ireturn), (41, .aload_n 0), (42, .getfield 19), (45, .iload_n 1), (46, .iload_n 2), (47, .invokevirtual 239), (50, .ifCond .eq 7), (53, .iconst 1), (54, .goto 4), (57, .iconst 0), (58, .ireturn)]
def ab_c96 : List (Nat × Instr) := [(0, .iload_n 1), (1, .invokestatic 80), (4, .ifCond .eq 13), (7, .iload_n 2), (8, .ifCond .lt 9), (11, .iload_n 2), (12, .bipush 99), (14, .if_icmp .le 6), (17, .bipush (-2)), (19, .ireturn), (20, .aload_n 0), (21, .getfield 65), (24, .iload_n 1), (25, .iaload), (26, .istore_n 3), (27, .aload_n 0), (28, .getfield 65), (31, .iload_n 1), (32, .iload_n 2), (33, .iastore), (34, .iload_n 3), (35, .ireturn)]
def ab_c97 : List (Nat × Instr) := [(0, .iload_n 1), (1, .iconst (-1)), (2, .if_icmp .ge 6), (5, .bipush (-2)), (7, .ireturn), (8, .aload_n 0), (9, .invokevirtual 121), (12, .aload_n 0), (13, .getfield 36), (16, .aload_n 0), (17, .getfield 19), (20, .aload_n 0), (21, .getfield 65), (24, .invokevirtual 242), (27, .iload_n 1), (28, .iconst (-1)), (29, .if_icmp .ne 11), (32, .aload_n 0), (33, .getfield 36), (36, .getfield 245), (39, .ireturn), (40, .iload_n 1), (41, .aload_n 0), (42, .getfield 36), (45, .getfield 248), (48, .if_icmp .ge 15), (51, .aload_n 0), (52, .getfield 36), (55, .getfield 249), (58, .iload_n 1), (59, .iaload), (60, .goto 4), (63, .iconst (-1)), (64, .ireturn)]
def ab_c98 : List (Nat × Instr) := [(0, .iload_n 1), (1, .invokestatic 80), (4, .ifCond .eq 10), (7, .iload_n 2), (8, .invokestatic 133), (11, .ifCond .ne 9), (14, .bipush (-2)), (16, .invokestatic 136), (19, .lreturn), (20, .aload_n 0), (21, .invokevirtual 121), (24, .aload_n 0), (25, .getfield 19), (28, .iload_n 1), (29, .invokevirtual 252), (32, .iconst 2), (33, .idiv), (34, .istore_n 3), (35, .iload_n 3), (36, .ifCond .ne 9), (39, .bipush (-3)), (41, .invokestatic 136), (44, .lreturn), (45, .aload_n 0), (46, .iload_n 1), (47, .iload_n 3), (48, .invokevirtual 255), (51, .iload_n 3), (52, .i2l), (53, .aload_n 0), (54, .getfield 19), (57, .invokevirtual 158), (60, .lmul), (61, .iload_n 2), (62, .invokestatic 148), (65, .lreturn)]
def ab_c99 : List (Nat × Instr) := [(0, .iload_n 1), (1, .invokestatic 80), (4, .ifCond .eq 22), (7, .iload_n 2), (8, .invokestatic 80), (11, .ifCond .eq 15), (14, .iload_n 1), (15, .iload_n 2), (16, .if_icmp .eq 10), (19, .iload_n 3), (20, .invokestatic 133), (23, .ifCond .ne 6), (26, .bipush (-2)), (28, .ireturn), (29, .aload_n 0), (30, .invokevirtual 121), (33, .aload_n 0), (34, .getfield 43), (37, .aload_n 0), (38, .getfield 19), (41, .iload_n 1), (42, .iload_n 2), (43, .invokevirtual 258), (46, .aload_n 0), (47, .getfield 43), (50, .getfield 262), (53, .iconst 2), (54, .if_icmp .ge 6), (57, .bipush (-3)), (59, .ireturn), (60, .iload_n 3), (61, .ifCond .ne 11), (64, .aload_n 0), (65, .getfield 43), (68, .invokevirtual 263), (71, .ireturn), (72, .aload_n 0), (73, .getfield 43), (76, .getfield 262), (79, .bipush 7), (81, .if_icmp .le 8), (84, .bipush (-4)), (86, .goto 10), (89, .aload_n 0), (90, .getfield 43), (93, .invokevirtual 266), (96, .ireturn)]
def ab_c100 : List (Nat × Instr) := [(0, .aload_n 0), (1, .invokevirtual 121), (4, .iconst (-1)), (5, .istore_n 1), (6, .ldc2_w 269), (9, .lstore_n 2), (10, .iconst 0), (11, .istore 4), (13, .iload 4), (15, .bipush 48), (17, .if_icmp .ge 56), (20, .aload_n 0), (21, .getfield 19), (24, .getfield 124), (27, .iload 4), (29, .iaload), (30, .iconst (-1)), (31, .if_icmp .eq 36), (34, .aload_n 0), (35, .getfield 19), (38, .iload 4), (40, .invokevirtual 162), (43, .invokestatic 271), (46, .lload_n 2), (47, .lcmp), (48, .ifCond .le 19), (51, .aload_n 0), (52, .getfield 19), (55, .iload 4), (57, .invokevirtual 162), (60, .invokestatic 271), (63, .lstore_n 2), (64, .iload 4), (66, .istore_n 1), (67, .iinc 4 1), (70, .goto (-57)), (73, .iload_n 1), (74, .ireturn)]
def ab_c101 : List (Nat × Instr) := [(0, .iload_n 1), (1, .invokestatic 76), (4, .ifCond .eq 17), (7, .iload_n 2), (8, .invokestatic 80), (11, .ifCond .eq 10), (14, .iload_n 3), (15, .invokestatic 133), (18, .ifCond .ne 9), (21, .bipush (-2)), (23, .invokestatic 136), (26, .lreturn), (27, .aload_n 0), (28, .invokevirtual 121), (31, .iconst 4), (32, .iload_n 1), (33, .imul), (34, .iload_n 2), (35, .iadd), (36, .istore 4), (38, .aload_n 0), (39, .getfield 19), (42, .getfield 124), (45, .iload 4), (47, .iaload), (48, .iconst (-1)), (49, .if_icmp .ne 9), (52, .bipush (-3)), (54, .invokestatic 136), (57, .lreturn), (58, .aload_n 0), (59, .getfield 23), (62, .aload_n 0), (63, .getfield 19), (66, .iload 4), (68, .iconst (-1)), (69, .invokevirtual 277), (72, .aload_n 0), (73, .getfield 23), (76, .invokevirtual 280), (79, .aload_n 0), (80, .getfield 23), (83, .aload_n 0), (84, .getfield 19), (87, .getfield 165), (90, .iload_n 2), (91, .iaload), (92, .invokevirtual 168), (95, .aload_n 0), (96, .getfield 23), (99, .invokevirtual 158), (102, .iload_n 3), (103, .invokestatic 148), (106, .lreturn)]
def ab_c102 : List (Nat × Instr) := [(0, .iload_n 1), (1, .invokestatic 97), (4, .ifCond .eq 16), (7, .iload_n 2), (8, .invokestatic 283), (11, .ifCond .eq 9), (14, .iload_n 3), (15, .bipush 48), (17, .if_icmp .le 6), (20, .bipush (-2)), (22, .ireturn), (23, .iload_n 3), (24, .ifCond .ge 9), (27, .aload_n 0), (28, .iconst 5), (29, .invokevirtual 103), (32, .ireturn), (33, .aload_n 0), (34, .getfield 57), (37, .iload_n 1), (38, .iload_n 2), (39, .iload_n 3), (40, .invokevirtual 286), (43, .iload_n 3), (44, .ireturn)]
def ab_c103 : List (Nat × Instr) := [(0, .iload_n 1), (1, .invokestatic 97), (4, .ifCond .ne 6), (7, .bipush (-2)), (9, .ireturn), (10, .aload_n 0), (11, .getfield 57), (14, .iload_n 1), (15, .invokevirtual 100), (18, .ifCond .eq 9), (21, .aload_n 0), (22, .iconst 1), (23, .invokevirtual 103), (26, .ireturn), (27, .aload_n 0), (28, .getfield 57), (31, .getfield 107), (34, .iload_n 1), (35, .iaload), (36, .istore_n 2), (37, .aload_n 0), (38, .getfield 57), (41, .iload_n 1), (42, .invokevirtual 289), (45, .iload_n 2), (46, .ireturn)]
def ab_c104 : List (Nat × Instr) := [(0, .iload_n 1), (1, .invokestatic 97), (4, .ifCond .eq 10), (7, .iload_n 2), (8, .invokestatic 283), (11, .ifCond .ne 6), (14, .bipush (-2)), (16, .ireturn), (17, .aload_n 0), (18, .getfield 57), (21, .iload_n 1), (22, .iload_n 2), (23, .iload_n 3), (24, .invokevirtual 292), (27, .istore 5), (29, .iload 5), (31, .ifCond .eq 10), (34, .aload_n 0), (35, .iload 5), (37, .invokevirtual 103), (40, .ireturn), (41, .aload_n 0), (42, .getfield 57), (45, .iload_n 1), (46, .iload_n 3), (47, .iload 4), (49, .invokevirtual 296), (52, .iconst 1), (53, .ireturn)]
def ab_c105 : List (Nat × Instr) := [(0, .iload_n 1), (1, .invokestatic 97), (4, .ifCond .eq 10), (7, .iload_n 2), (8, .invokestatic 283), (11, .ifCond .ne 7), (14, .ldc_w 299), (17, .ireturn), (18, .aload_n 0), (19, .getfield 57), (22, .iload_n 1), (23, .iload_n 2), (24, .iload_n 3), (25, .invokevirtual 292), (28, .istore 4), (30, .iload 4), (32, .ifCond .eq 13), (35, .aload_n 0), (36, .iload 4), (38, .putfield 72), (41, .ldc_w 299), (44, .ireturn), (45, .aload_n 0), (46, .getfield 57), (49, .iload_n 1), (50, .iload_n 3), (51, .invokevirtual 110), (54, .ireturn)]
def ab_c106 : List (Nat × Instr) := [(0, .iload_n 1), (1, .invokestatic 97), (4, .ifCond .eq 10), (7, .iload_n 3), (8, .invokestatic 97), (11, .ifCond .ne 6), (14, .bipush (-2)), (16, .ireturn), (17, .aload_n 0), (18, .getfield 57), (21, .iload_n 1), (22, .invokevirtual 100), (25, .ifCond .ne 14), (28, .aload_n 0), (29, .getfield 57), (32, .iload_n 3), (33, .invokevirtual 100), (36, .ifCond .eq 9), (39, .aload_n 0), (40, .iconst 1), (41, .invokevirtual 103), (44, .ireturn), (45, .aload_n 0), (46, .getfield 57), (49, .getfield 300), (52, .iload_n 1), (53, .iaload), (54, .aload_n 0), (55, .getfield 57), (58, .getfield 300), (61, .iload_n 3), (62, .iaload), (63, .if_icmp .eq 9), (66, .aload_n 0), (67, .iconst 4), (68, .invokevirtual 103), (71, .ireturn), (72, .aload_n 0), (73, .getfield 57), (76, .iload_n 1), (77, .iload_n 2), (78, .iload 5), (80, .invokevirtual 303), (83, .ifCond .eq 18), (86, .aload_n 0), (87, .getfield 57), (90, .iload_n 3), (91, .iload 4), (93, .iload 5), (95, .invokevirtual 303), (98, .ifCond .ne 9), (101, .aload_n 0), (102, .iconst 2), (103, .invokevirtual 103), (106, .ireturn), (107, .aload_n 0), (108, .getfield 57), (111, .iload_n 1), (112, .iload_n 2), (113, .iload_n 3), (114, .iload 4), (116, .iload 5), (118, .invokevirtual 306), (121, .iconst 1), (122, .ireturn)]
def ab_c107 : List (Nat × Instr) := [(0, .iload_n 1), (1, .invokestatic 80), (4, .ifCond .eq 10), (7, .iload_n 2), (8, .invokestatic 97), (11, .ifCond .ne 6), (14, .bipush (-2)), (16, .ireturn), (17, .aload_n 0), (18, .getfield 57), (21, .iload_n 2), (22, .invokevirtual 100), (25, .ifCond .eq 9), (28, .aload_n 0), (29, .iconst 1), (30, .invokevirtual 103), (33, .ireturn), (34, .aload_n 0), (35, .invokevirtual 121), (38, .aload_n 0), (39, .getfield 57), (42, .getfield 107), (45, .iload_n 2), (46, .iaload), (47, .bipush 12), (49, .invokestatic 310), (52, .istore_n 3), (53, .iconst 0), (54, .istore 4), (56, .iload 4), (58, .iload_n 3), (59, .if_icmp .ge 33), (62, .aload_n 0), (63, .getfield 57), (66, .iload_n 2), (67, .iload 4), (69, .aload_n 0), (70, .getfield 19), (73, .getfield 124), (76, .iconst 4), (77, .iload 4), (79, .imul), (80, .iload_n 1), (81, .iadd), (82, .iaload), (83, .invokevirtual 296), (86, .iinc 4 1), (89, .goto (-33)), (92, .iload_n 3), (93, .ireturn)]
def ab_c108 : List (Nat × Instr) := [(0, .aload_n 0), (1, .invokevirtual 121), (4, .iload_n 1), (5, .tableswitch 120 0 8 #[51, 59, 67, 75, 83, 91, 99, 107, 115]), (56, .aload_n 0), (57, .getfield 19), (60, .invokevirtual 313), (63, .ireturn), (64, .aload_n 0), (65, .getfield 10), (68, .getfield 94), (71, .ireturn), (72, .aload_n 0), (73, .getfield 10), (76, .getfield 118), (79, .ireturn), (80, .aload_n 0), (81, .getfield 10), (84, .getfield 316), (87, .ireturn), (88, .aload_n 0), (89, .getfield 19), (92, .invokevirtual 319), (95, .ireturn), (96, .aload_n 0), (97, .getfield 50), (100, .getfield 179), (103, .ireturn), (104, .aload_n 0), (105, .getfield 19), (108, .invokevirtual 322), (111, .ireturn), (112, .aload_n 0), (113, .getfield 19), (116, .invokevirtual 325), (119, .ireturn), (120, .aload_n 0), (121, .getfield 72), (124, .ireturn), (125, .bipush (-2)), (127, .ireturn)]
def ab_c109 : List (Nat × Instr) := [(0, .ldc2_w 328), (3, .lstore_n 1), (4, .iconst 0), (5, .istore_n 3), (6, .iload_n 3), (7, .bipush 7), (9, .if_icmp .gt 22), (12, .ldc2_w 330), (15, .lload_n 1), (16, .lmul), (17, .aload_n 0), (18, .iload_n 3), (19, .invokevirtual 332), (22, .i2l), (23, .ladd), (24, .lstore_n 1), (25, .iinc 3 1), (28, .goto (-22)), (31, .iconst 0), (32, .istore_n 3), (33, .iload_n 3), (34, .bipush 12), (36, .if_icmp .ge 65), (39, .iconst 0), (40, .istore 4), (42, .iload 4), (44, .iconst 4), (45, .if_icmp .ge 24), (48, .ldc2_w 330), (51, .lload_n 1), (52, .lmul), (53, .aload_n 0), (54, .iload_n 3), (55, .iload 4), (57, .invokevirtual 335), (60, .i2l), (61, .ladd), (62, .lstore_n 1), (63, .iinc 4 1), (66, .goto (-24)), (69, .ldc2_w 330), (72, .lload_n 1), (73, .lmul), (74, .aload_n 0), (75, .iload_n 3), (76, .iconst 0), (77, .invokevirtual 338), (80, .ladd), (81, .lstore_n 1), (82, .ldc2_w 330), (85, .lload_n 1), (86, .lmul), (87, .aload_n 0), (88, .iload_n 3), (89, .iconst 1), (90, .invokevirtual 338), (93, .ladd), (94, .lstore_n 1), (95, .iinc 3 1), (98, .goto (-65)), (101, .iconst 0), (102, .istore_n 3), (103, .iload_n 3), (104, .iconst 4), (105, .if_icmp .ge 35), (108, .ldc2_w 330), (111, .lload_n 1), (112, .lmul), (113, .aload_n 0), (114, .iload_n 3), (115, .iconst 0), (116, .invokevirtual 341), (119, .ladd), (120, .lstore_n 1), (121, .ldc2_w 330), (124, .lload_n 1), (125, .lmul), (126, .aload_n 0), (127, .iload_n 3), (128, .iconst 1), (129, .invokevirtual 341), (132, .ladd), (133, .lstore_n 1), (134, .iinc 3 1), (137, .goto (-34)), (140, .iconst 0), (141, .istore_n 3), (142, .iload_n 3), (143, .iconst 3), (144, .if_icmp .gt 21), (147, .ldc2_w 330), (150, .lload_n 1), (151, .lmul), (152, .aload_n 0), (153, .iload_n 3), (154, .invokevirtual 344), (157, .ladd), (158, .lstore_n 1), (159, .iinc 3 1), (162, .goto (-20)), (165, .ldc2_w 330), (168, .lload_n 1), (169, .lmul), (170, .aload_n 0), (171, .invokevirtual 347), (174, .i2l), (175, .ladd), (176, .lstore_n 1), (177, .ldc2_w 330), (180, .lload_n 1), (181, .lmul), (182, .aload_n 0), (183, .invokevirtual 350), (186, .i2l), (187, .ladd), (188, .lreturn)]
def ab_c110 : List (Nat × Instr) := [(0, .aload_n 0), (1, .getfield 68), (4, .ifCond .ne 4), (7, .return_), (8, .aload_n 0), (9, .iconst 0), (10, .putfield 68), (13, .aload_n 0), (14, .getfield 29), (17, .iconst 0), (18, .putfield 353), (21, .aload_n 0), (22, .getfield 10), (25, .aload_n 0), (26, .getfield 19), (29, .getfield 124), (32, .aload_n 0), (33, .getfield 61), (36, .invokevirtual 356), (39, .aload_n 0), (40, .getfield 19), (43, .invokevirtual 359), (46, .aload_n 0), (47, .getfield 19), (50, .invokevirtual 280), (53, .return_)]
def ab_c111 : List (Nat × Instr) := [(0, .aload_n 0), (1, .iload_n 1), (2, .putfield 72), (5, .bipush (-10)), (7, .iload_n 1), (8, .isub), (9, .ireturn)]
def ab_c112 : List (Nat × Instr) := [(0, .aload_n 0), (1, .getfield 50), (4, .aload_n 0), (5, .getfield 19), (8, .getfield 155), (11, .iload_n 1), (12, .laload), (13, .aload_n 0), (14, .getfield 19), (17, .invokevirtual 158), (20, .iload_n 2), (21, .invokevirtual 203), (24, .ireturn)]
def ab_c113 : List (Nat × Instr) := [(0, .iload_n 3), (1, .ifCond .ne 31), (4, .aload_n 0), (5, .getfield 19), (8, .getfield 155), (11, .iload_n 1), (12, .laload), (13, .aload_n 0), (14, .getfield 19), (17, .getfield 155), (20, .iload_n 2), (21, .laload), (22, .lcmp), (23, .ifCond .le 7), (26, .iconst 1), (27, .goto 4), (30, .iconst 0), (31, .ireturn), (32, .aload_n 0), (33, .getfield 19), (36, .iload_n 1), (37, .invokevirtual 195), (40, .aload_n 0), (41, .getfield 19), (44, .getfield 152), (47, .iload_n 2), (48, .iaload), (49, .invokestatic 198), (52, .i2l), (53, .lmul), (54, .aload_n 0), (55, .getfield 19), (58, .iload_n 2), (59, .invokevirtual 195), (62, .aload_n 0), (63, .getfield 19), (66, .getfield 152), (69, .iload_n 1), (70, .iaload), (71, .invokestatic 198), (74, .i2l), (75, .lmul), (76, .lcmp), (77, .ifCond .le 7), (80, .iconst 1), (81, .goto 4), (84, .iconst 0), (85, .ireturn)]
def ab_c114 : List (Nat × Instr) := [(0, .aload_n 0), (1, .getfield 19), (4, .iload_n 1), (5, .invokevirtual 252), (8, .istore_n 3), (9, .lconst 0), (10, .lstore 4), (12, .iload_n 1), (13, .istore 6), (15, .iload 6), (17, .bipush 48), (19, .if_icmp .ge 77), (22, .aload_n 0), (23, .getfield 19), (26, .getfield 124), (29, .iload 6), (31, .iaload), (32, .iconst (-1)), (33, .if_icmp .ne 6), (36, .goto 54), (39, .aload_n 0), (40, .iload 6), (42, .iload_n 1), (43, .invokevirtual 362), (46, .istore 7), (48, .iload 7), (50, .iload_n 2), (51, .if_icmp .ge 17), (54, .lload 4), (56, .aload_n 0), (57, .getfield 19), (60, .iload 6), (62, .invokevirtual 162), (65, .lsub), (66, .lstore 4), (68, .iload 7), (70, .iload_n 3), (71, .iload_n 2), (72, .isub), (73, .if_icmp .lt 17), (76, .lload 4), (78, .aload_n 0), (79, .getfield 19), (82, .iload 6), (84, .invokevirtual 162), (87, .ladd), (88, .lstore 4), (90, .iinc 6 4), (93, .goto (-78)), (96, .lload 4), (98, .lreturn)]
def ab_c115 : List (Nat × Instr) := [(0, .iconst 0), (1, .istore_n 3), (2, .iload_n 2), (3, .istore 4), (5, .iload 4), (7, .bipush 48), (9, .if_icmp .ge 42), (12, .aload_n 0), (13, .getfield 19), (16, .getfield 124), (19, .iload 4), (21, .iaload), (22, .iconst (-1)), (23, .if_icmp .eq 22), (26, .aload_n 0), (27, .getfield 61), (30, .iload 4), (32, .iaload), (33, .aload_n 0), (34, .getfield 61), (37, .iload_n 1), (38, .iaload), (39, .if_icmp .ge 6), (42, .iinc 3 1), (45, .iinc 4 4), (48, .goto (-43)), (51, .iload_n 3), (52, .ireturn)]
def ab_c116 : List (Nat × Instr) := [(0, .iload_n 0), (1, .ifCond .lt 13), (4, .iload_n 0), (5, .bipush 12), (7, .if_icmp .ge 7), (10, .iconst 1), (11, .goto 4), (14, .iconst 0), (15, .ireturn)]
def ab_c117 : List (Nat × Instr) := [(0, .iload_n 0), (1, .ifCond .lt 12), (4, .iload_n 0), (5, .iconst 4), (6, .if_icmp .ge 7), (9, .iconst 1), (10, .goto 4), (13, .iconst 0), (14, .ireturn)]
def ab_c118 : List (Nat × Instr) := [(0, .iload_n 0), (1, .ifCond .lt 12), (4, .iload_n 0), (5, .iconst 4), (6, .if_icmp .ge 7), (9, .iconst 1), (10, .goto 4), (13, .iconst 0), (14, .ireturn)]
def ab_c119 : List (Nat × Instr) := [(0, .iload_n 0), (1, .ifCond .lt 12), (4, .iload_n 0), (5, .iconst 2), (6, .if_icmp .gt 7), (9, .iconst 1), (10, .goto 4), (13, .iconst 0), (14, .ireturn)]
def ab_c120 : List (Nat × Instr) := [(0, .iload_n 0), (1, .ifCond .eq 8), (4, .iload_n 0), (5, .iconst 1), (6, .if_icmp .ne 7), (9, .iconst 1), (10, .goto 4), (13, .iconst 0), (14, .ireturn)]
def ab_c121 : List (Nat × Instr) := [(0, .ldc2_w 367), (3, .iload_n 0), (4, .i2l), (5, .lsub), (6, .lreturn)]
def ab_c122 : List (Nat × Instr) := [(0, .lload_n 0), (1, .invokestatic 271), (4, .lload_n 2), (5, .invokestatic 369), (8, .lstore 5), (10, .lload 5), (12, .lconst 0), (13, .lcmp), (14, .ifCond .gt 5), (17, .lconst 0), (18, .lreturn), (19, .iload 4), (21, .ifCond .ne 10), (24, .lload_n 0), (25, .lload 5), (27, .ldiv), (28, .goto 7), (31, .lload_n 2), (32, .lload 5), (34, .ldiv), (35, .lreturn)]
def ab_c123 : List (Nat × Instr) := [(0, .lload_n 0), (1, .lstore 4), (3, .lload_n 2), (4, .lstore 6), (6, .iconst 0), (7, .istore 8), (9, .iload 8), (11, .bipush 100), (13, .if_icmp .ge 31), (16, .lload 6), (18, .lconst 0), (19, .lcmp), (20, .ifCond .eq 24), (23, .lload 4), (25, .lload 6), (27, .lrem), (28, .lstore 9), (30, .lload 6), (32, .lstore 4), (34, .lload 9), (36, .lstore 6), (38, .iinc 8 1), (41, .goto (-32)), (44, .lload 4), (46, .lreturn)]
def ab_c124 : List (Nat × Instr) := [(0, .iconst 0), (1, .istore_n 1), (2, .iload_n 1), (3, .iconst 4), (4, .if_icmp .ge 19), (7, .iload_n 0), (8, .iload_n 1), (9, .ishr), (10, .iconst 1), (11, .iand), (12, .ifCond .eq 5), (15, .iload_n 1), (16, .ireturn), (17, .iinc 1 1), (20, .goto (-18)), (23, .iconst (-1)), (24, .ireturn)]
def ab_c125 : List (Nat × Instr) := [(0, .aload_n 0), (1, .invokespecial 1), (4, .aload_n 0), (5, .bipush 100), (7, .newarray .int), (9, .putfield 7), (12, .aload_n 0), (13, .bipush 100), (15, .newarray .int), (17, .putfield 13), (20, .aload_n 0), (21, .bipush 100), (23, .newarray .int), (25, .putfield 16), (28, .aload_n 0), (29, .bipush 100), (31, .newarray .int), (33, .putfield 19), (36, .aload_n 0), (37, .sipush 999), (40, .putfield 22), (43, .aload_n 0), (44, .iconst 4), (45, .newarray .int), (47, .putfield 26), (50, .aload_n 0), (51, .bipush 48), (53, .newarray .int), (55, .putfield 29), (58, .aload_n 0), (59, .bipush 48), (61, .newarray .int), (63, .putfield 32), (66, .aload_n 0), (67, .bipush 16), (69, .newarray .int), (71, .putfield 35), (74, .aload_n 0), (75, .iconst 3), (76, .newarray .int), (78, .putfield 38), (81, .aload_n 0), (82, .bipush 12), (84, .newarray .long), (86, .putfield 41), (89, .aload_n 0), (90, .iconst 4), (91, .newarray .long), (93, .putfield 45), (96, .aload_n 0), (97, .iconst 4), (98, .newarray .long), (100, .putfield 48), (103, .aload_n 0), (104, .iconst 4), (105, .newarray .long), (107, .putfield 51), (110, .aload_n 0), (111, .bipush 12), (113, .newarray .long), (115, .putfield 54), (118, .aload_n 0), (119, .bipush 60), (121, .newarray .int), (123, .putfield 57), (126, .aload_n 0), (127, .bipush 6), (129, .newarray .int), (131, .putfield 60), (134, .aload_n 0), (135, .bipush 6), (137, .newarray .int), (139, .putfield 63), (142, .aload_n 0), (143, .bipush 12), (145, .newarray .int), (147, .putfield 66), (150, .aload_n 0), (151, .bipush 12), (153, .newarray .int), (155, .putfield 69), (158, .aload_n 0), (159, .bipush 12), (161, .newarray .int), (163, .putfield 72), (166, .aload_n 0), (167, .iconst 4), (168, .newarray .boolean), (170, .putfield 75), (173, .aload_n 0), (174, .iconst 4), (175, .newarray .int), (177, .putfield 79), (180, .aload_n 0), (181, .iconst 4), (182, .newarray .int), (184, .putfield 82), (187, .aload_n 0), (188, .sipush 192), (191, .newarray .int), (193, .putfield 85), (196, .aload_n 0), (197, .bipush 48), (199, .newarray .int), (201, .putfield 88), (204, .iconst 0), (205, .istore_n 1), (206, .iload_n 1), (207, .iconst 4), (208, .if_icmp .ge 16), (211, .aload_n 0), (212, .getfield 26), (215, .iload_n 1), (216, .iconst 1), (217, .iastore), (218, .iinc 1 1), (221, .goto (-15)), (224, .return_)]
def ab_c126 : List (Nat × Instr) := [(0, .iload_n 0), (1, .iload_n 1), (2, .if_icmp .lt 12), (5, .iload_n 0), (6, .iload_n 2), (7, .if_icmp .gt 7), (10, .iconst 1), (11, .goto 4), (14, .iconst 0), (15, .ireturn)]
def ab_c127 : List (Nat × Instr) := [(0, .ldc2_w 91), (3, .iload_n 0), (4, .i2l), (5, .lsub), (6, .lreturn)]
def ab_c128 : List (Nat × Instr) := [(0, .lload_n 0), (1, .lconst 0), (2, .lcmp), (3, .ifCond .ge 8), (6, .lload_n 0), (7, .lneg), (8, .goto 4), (11, .lload_n 0), (12, .lreturn)]
def ab_c129 : List (Nat × Instr) := [(0, .lload_n 0), (1, .invokestatic 93), (4, .lstore 4), (6, .lload_n 2), (7, .invokestatic 93), (10, .lstore 6), (12, .lload 6), (14, .lconst 0), (15, .lcmp), (16, .ifCond .eq 21), (19, .lload 4), (21, .lload 6), (23, .lrem), (24, .lstore 8), (26, .lload 6), (28, .lstore 4), (30, .lload 8), (32, .lstore 6), (34, .goto (-22)), (37, .lload 4), (39, .lreturn)]
def ab_c130 : List (Nat × Instr) := [(0, .lload_n 0), (1, .lload_n 2), (2, .invokestatic 97), (5, .lstore 5), (7, .iload 4), (9, .ifCond .ne 10), (12, .lload_n 0), (13, .lload 5), (15, .ldiv), (16, .goto 7), (19, .lload_n 2), (20, .lload 5), (22, .ldiv), (23, .lreturn)]
def ab_c131 : List (Nat × Instr) := [(0, .iload_n 0), (1, .iconst 0), (2, .bipush 11), (4, .invokestatic 101), (7, .ireturn)]
def ab_c132 : List (Nat × Instr) := [(0, .iload_n 0), (1, .iconst 0), (2, .iconst 3), (3, .invokestatic 101), (6, .ireturn)]
def ab_c133 : List (Nat × Instr) := [(0, .aload_n 0), (1, .getfield 105), (4, .ifCond .ne 7), (7, .iconst 0), (8, .goto 14), (11, .aload_n 0), (12, .getfield 19), (15, .aload_n 0), (16, .getfield 105), (19, .iconst 1), (20, .isub), (21, .iaload), (22, .ireturn)]
def ab_c134 : List (Nat × Instr) := [(0, .iload_n 1), (1, .invokestatic 108), (4, .ifCond .eq 35), (7, .iload_n 2), (8, .invokestatic 112), (11, .ifCond .eq 28), (14, .iload_n 3), (15, .iconst (-1)), (16, .bipush 100), (18, .invokestatic 101), (21, .ifCond .eq 18), (24, .iload 4), (26, .aload_n 0), (27, .invokevirtual 115), (30, .sipush 999), (33, .invokestatic 101), (36, .ifCond .ne 6), (39, .bipush (-2)), (41, .ireturn), (42, .aload_n 0), (43, .getfield 105), (46, .bipush 100), (48, .if_icmp .ne 6), (51, .bipush (-4)), (53, .ireturn), (54, .aload_n 0), (55, .getfield 7), (58, .aload_n 0), (59, .getfield 105), (62, .iload_n 1), (63, .iastore), (64, .aload_n 0), (65, .getfield 13), (68, .aload_n 0), (69, .getfield 105), (72, .iload_n 2), (73, .iastore), (74, .aload_n 0), (75, .getfield 16), (78, .aload_n 0), (79, .getfield 105), (82, .iload_n 3), (83, .iastore), (84, .aload_n 0), (85, .getfield 19), (88, .aload_n 0), (89, .getfield 105), (92, .iload 4), (94, .iastore), (95, .aload_n 0), (96, .dup), (97, .getfield 105), (100, .iconst 1), (101, .iadd), (102, .putfield 105), (105, .aload_n 0), (106, .getfield 105), (109, .ireturn)]
def ab_c135 : List (Nat × Instr) := [(0, .aload_n 0), (1, .iload_n 1), (2, .iload_n 2), (3, .iload_n 3), (4, .iload 4), (6, .invokevirtual 119), (9, .ireturn)]
def ab_c136 : List (Nat × Instr) := [(0, .iload_n 1), (1, .invokestatic 123), (4, .ifCond .eq 17), (7, .iload_n 2), (8, .aload_n 0), (9, .invokevirtual 115), (12, .sipush 999), (15, .invokestatic 101), (18, .ifCond .ne 6), (21, .bipush (-2)), (23, .ireturn), (24, .aload_n 0), (25, .getfield 75), (28, .iload_n 1), (29, .baload), (30, .ifCond .ne 9), (33, .aload_n 0), (34, .iconst 1), (35, .invokevirtual 126), (38, .ireturn), (39, .iconst 0), (40, .istore_n 3), (41, .iconst 3), (42, .iload_n 3), (43, .imul), (44, .iconst 2), (45, .iadd), (46, .aload_n 0), (47, .getfield 82), (50, .iload_n 1), (51, .iaload), (52, .if_icmp .ge 60), (55, .aload_n 0), (56, .aload_n 0), (57, .getfield 85), (60, .bipush 48), (62, .iload_n 1), (63, .imul), (64, .iconst 3), (65, .iload_n 3), (66, .imul), (67, .iadd), (68, .iaload), (69, .aload_n 0), (70, .getfield 85), (73, .bipush 48), (75, .iload_n 1), (76, .imul), (77, .iconst 3), (78, .iload_n 3), (79, .imul), (80, .iadd), (81, .iconst 1), (82, .iadd), (83, .iaload), (84, .aload_n 0), (85, .getfield 85), (88, .bipush 48), (90, .iload_n 1), (91, .imul), (92, .iconst 3), (93, .iload_n 3), (94, .imul), (95, .iadd), (96, .iconst 2), (97, .iadd), (98, .iaload), (99, .iload_n 2), (100, .invokevirtual 119), (103, .ifCond .le 9), (106, .iinc 3 1), (109, .goto (-68)), (112, .iload_n 3), (113, .ireturn)]
def ab_c137 : List (Nat × Instr) := [(0, .iload_n 1), (1, .iconst 0), (2, .sipush 999), (5, .invokestatic 101), (8, .ifCond .ne 6), (11, .bipush (-2)), (13, .ireturn), (14, .aload_n 0), (15, .getfield 22), (18, .istore_n 2), (19, .aload_n 0), (20, .iload_n 1), (21, .putfield 22), (24, .iload_n 2), (25, .ireturn)]
def ab_c138 : List (Nat × Instr) := [(0, .iconst 0), (1, .istore_n 1), (2, .iload_n 1), (3, .bipush 48), (5, .if_icmp .ge 23), (8, .aload_n 0), (9, .getfield 29), (12, .iload_n 1), (13, .iconst (-1)), (14, .iastore), (15, .aload_n 0), (16, .getfield 32), (19, .iload_n 1), (20, .iconst (-1)), (21, .iastore), (22, .iinc 1 1), (25, .goto (-23)), (28, .iconst 0), (29, .istore_n 1), (30, .iload_n 1), (31, .aload_n 0), (32, .getfield 105), (35, .if_icmp .ge 69), (38, .aload_n 0), (39, .getfield 19), (42, .iload_n 1), (43, .iaload), (44, .aload_n 0), (45, .getfield 22), (48, .if_icmp .gt 50), (51, .aload_n 0), (52, .getfield 29), (55, .iconst 4), (56, .aload_n 0), (57, .getfield 7), (60, .iload_n 1), (61, .iaload), (62, .imul), (63, .aload_n 0), (64, .getfield 13), (67, .iload_n 1), (68, .iaload), (69, .iadd), (70, .aload_n 0), (71, .getfield 16), (74, .iload_n 1), (75, .iaload), (76, .iastore), (77, .aload_n 0), (78, .getfield 32), (81, .iconst 4), (82, .aload_n 0), (83, .getfield 7), (86, .iload_n 1), (87, .iaload), (88, .imul), (89, .aload_n 0), (90, .getfield 13), (93, .iload_n 1), (94, .iaload), (95, .iadd), (96, .iload_n 1), (97, .iastore), (98, .iinc 1 1), (101, .goto (-71)), (104, .aload_n 0), (105, .invokevirtual 130), (108, .return_)]
def ab_c139 : List (Nat × Instr) := [(0, .iconst 0), (1, .istore_n 1), (2, .iload_n 1), (3, .bipush 16), (5, .if_icmp .ge 16), (8, .aload_n 0), (9, .getfield 35), (12, .iload_n 1), (13, .iconst (-1)), (14, .iastore), (15, .iinc 1 1), (18, .goto (-16)), (21, .iconst 0), (22, .istore_n 1), (23, .iload_n 1), (24, .bipush 48), (26, .if_icmp .ge 33), (29, .aload_n 0), (30, .getfield 29), (33, .iload_n 1), (34, .iaload), (35, .iconst (-1)), (36, .if_icmp .eq 17), (39, .aload_n 0), (40, .getfield 35), (43, .bipush 12), (45, .iload_n 1), (46, .iconst 4), (47, .irem), (48, .iadd), (49, .iload_n 1), (50, .iconst 4), (51, .irem), (52, .iastore), (53, .iinc 1 1), (56, .goto (-33)), (59, .iconst 1), (60, .istore_n 1), (61, .iload_n 1), (62, .ifCond .eq 123), (65, .iconst 0), (66, .istore_n 1), (67, .iconst 0), (68, .istore_n 2), (69, .iload_n 2), (70, .bipush 48), (72, .if_icmp .ge 110), (75, .iload_n 2), (76, .iconst 4), (77, .idiv), (78, .istore_n 3), (79, .bipush 12), (81, .iload_n 2), (82, .iconst 4), (83, .irem), (84, .iadd), (85, .istore 4), (87, .aload_n 0), (88, .getfield 29), (91, .iload_n 2), (92, .iaload), (93, .iconst (-1)), (94, .if_icmp .eq 82), (97, .aload_n 0), (98, .getfield 35), (101, .iload_n 3), (102, .iaload), (103, .aload_n 0), (104, .getfield 35), (107, .iload 4), (109, .iaload), (110, .if_icmp .eq 66), (113, .aload_n 0), (114, .getfield 35), (117, .iload_n 3), (118, .iaload), (119, .iconst (-1)), (120, .if_icmp .eq 19), (123, .aload_n 0), (124, .getfield 35), (127, .iload 4), (129, .iaload), (130, .aload_n 0), (131, .getfield 35), (134, .iload_n 3), (135, .iaload), (136, .if_icmp .ge 13), (139, .aload_n 0), (140, .getfield 35), (143, .iload 4), (145, .iaload), (146, .goto 9), (149, .aload_n 0), (150, .getfield 35), (153, .iload_n 3), (154, .iaload), (155, .istore 5), (157, .aload_n 0), (158, .getfield 35), (161, .iload_n 3), (162, .iload 5), (164, .iastore), (165, .aload_n 0), (166, .getfield 35), (169, .iload 4), (171, .iload 5), (173, .iastore), (174, .iconst 1), (175, .istore_n 1), (176, .iinc 2 1), (179, .goto (-110)), (182, .goto (-121)), (185, .return_)]
def ab_c140 : List (Nat × Instr) := [(0, .aload_n 0), (1, .getfield 29), (4, .iconst 4), (5, .iload_n 1), (6, .imul), (7, .iload_n 2), (8, .iadd), (9, .iaload), (10, .ireturn)]
def ab_c141 : List (Nat × Instr) := [(0, .iload_n 1), (1, .invokestatic 108), (4, .ifCond .eq 10), (7, .iload_n 2), (8, .invokestatic 112), (11, .ifCond .ne 6), (14, .bipush (-2)), (16, .ireturn), (17, .aload_n 0), (18, .invokevirtual 133), (21, .aload_n 0), (22, .iload_n 1), (23, .iload_n 2), (24, .invokevirtual 136), (27, .ireturn)]
def ab_c142 : List (Nat × Instr) := [(0, .iload_n 1), (1, .iconst 0), (2, .iconst 1), (3, .invokestatic 101), (6, .ifCond .eq 24), (9, .iload_n 1), (10, .ifCond .ne 13), (13, .iload_n 2), (14, .invokestatic 108), (17, .ifCond .eq 13), (20, .goto 13), (23, .iload_n 2), (24, .invokestatic 112), (27, .ifCond .ne 6), (30, .bipush (-2)), (32, .ireturn), (33, .aload_n 0), (34, .invokevirtual 133), (37, .aload_n 0), (38, .getfield 35), (41, .bipush 12), (43, .iload_n 1), (44, .imul), (45, .iload_n 2), (46, .iadd), (47, .iaload), (48, .ireturn)]
def ab_c143 : List (Nat × Instr) := [(0, .iconst 0), (1, .istore_n 2), (2, .iconst 0), (3, .istore_n 3), (4, .iload_n 3), (5, .iconst 4), (6, .if_icmp .ge 27), (9, .iload_n 2), (10, .aload_n 0), (11, .iload_n 1), (12, .iload_n 3), (13, .invokevirtual 136), (16, .iconst (-1)), (17, .if_icmp .ne 7), (20, .iconst 0), (21, .goto 4), (24, .iconst 1), (25, .iadd), (26, .istore_n 2), (27, .iinc 3 1), (30, .goto (-26)), (33, .iload_n 2), (34, .ireturn)]
def ab_c144 : List (Nat × Instr) := [(0, .lconst 1), (1, .lstore_n 2), (2, .iconst 0), (3, .istore 4), (5, .iload 4), (7, .iload_n 1), (8, .if_icmp .ge 159), (11, .iconst 0), (12, .istore 5), (14, .iload 5), (16, .iload_n 1), (17, .if_icmp .ge 134), (20, .iconst 3), (21, .istore 6), (23, .iload 6), (25, .ifCond .lt 85), (28, .iload 5), (30, .iload 4), (32, .if_icmp .eq 78), (35, .iload 6), (37, .iload 4), (39, .if_icmp .eq 65), (42, .aload_n 0), (43, .getfield 41), (46, .iconst 4), (47, .iload 5), (49, .imul), (50, .iload 6), (52, .iadd), (53, .aload_n 0), (54, .getfield 41), (57, .iconst 4), (58, .iload 5), (60, .imul), (61, .iload 6), (63, .iadd), (64, .laload), (65, .aload_n 0), (66, .getfield 41), (69, .iconst 5), (70, .iload 4), (72, .imul), (73, .laload), (74, .lmul), (75, .aload_n 0), (76, .getfield 41), (79, .iconst 4), (80, .iload 5), (82, .imul), (83, .iload 4), (85, .iadd), (86, .laload), (87, .aload_n 0), (88, .getfield 41), (91, .iconst 4), (92, .iload 4), (94, .imul), (95, .iload 6), (97, .iadd), (98, .laload), (99, .lmul), (100, .lsub), (101, .lload_n 2), (102, .ldiv), (103, .lastore), (104, .iinc 6 (-1)), (107, .goto (-84)), (110, .aload_n 0), (111, .getfield 41), (114, .iconst 4), (115, .iload 5), (117, .imul), (118, .iload 4), (120, .iadd), (121, .iload 5), (123, .iload 4), (125, .if_icmp .ne 18), (128, .aload_n 0), (129, .getfield 41), (132, .iconst 4), (133, .iload 5), (135, .imul), (136, .iload 4), (138, .iadd), (139, .laload), (140, .goto 4), (143, .lconst 0), (144, .lastore), (145, .iinc 5 1), (148, .goto (-134)), (151, .aload_n 0), (152, .getfield 41), (155, .iconst 5), (156, .iload 4), (158, .imul), (159, .laload), (160, .lstore_n 2), (161, .iinc 4 1), (164, .goto (-159)), (167, .return_)]
def ab_c145 : List (Nat × Instr) := [(0, .iconst 0), (1, .istore_n 2), (2, .iload_n 1), (3, .iconst 1), (4, .iadd), (5, .istore_n 3), (6, .iload_n 3), (7, .iconst 4), (8, .if_icmp .ge 32), (11, .aload_n 0), (12, .getfield 35), (15, .bipush 12), (17, .iload_n 3), (18, .iadd), (19, .iaload), (20, .iload_n 1), (21, .if_icmp .ne 13), (24, .aload_n 0), (25, .getfield 38), (28, .iload_n 2), (29, .iload_n 3), (30, .iastore), (31, .iinc 2 1), (34, .iinc 3 1), (37, .goto (-31)), (40, .iconst 0), (41, .istore_n 3), (42, .iload_n 3), (43, .bipush 12), (45, .if_icmp .ge 16), (48, .aload_n 0), (49, .getfield 41), (52, .iload_n 3), (53, .lconst 0), (54, .lastore), (55, .iinc 3 1), (58, .goto (-16)), (61, .iconst 0), (62, .istore_n 3), (63, .iload_n 3), (64, .bipush 12), (66, .if_icmp .ge 149), (69, .aload_n 0), (70, .getfield 35), (73, .iload_n 3), (74, .iaload), (75, .iload_n 1), (76, .if_icmp .ne 11), (79, .aload_n 0), (80, .iload_n 3), (81, .invokevirtual 140), (84, .goto 4), (87, .iconst 0), (88, .istore 4), (90, .iconst 0), (91, .istore 5), (93, .iload 5), (95, .iload_n 2), (96, .if_icmp .ge 113), (99, .iload 4), (101, .ifCond .le 108), (104, .iconst 0), (105, .istore 6), (107, .iload 6), (109, .iload_n 2), (110, .if_icmp .ge 93), (113, .aload_n 0), (114, .iload_n 3), (115, .aload_n 0), (116, .getfield 38), (119, .iload 5), (121, .iaload), (122, .invokevirtual 136), (125, .iconst (-1)), (126, .if_icmp .eq 23), (129, .aload_n 0), (130, .iload_n 3), (131, .aload_n 0), (132, .getfield 38), (135, .iload 6), (137, .iaload), (138, .invokevirtual 136), (141, .iconst (-1)), (142, .if_icmp .eq 7), (145, .iconst 1), (146, .goto 4), (149, .iconst 0), (150, .istore 7), (152, .aload_n 0), (153, .getfield 41), (156, .iconst 4), (157, .iload 5), (159, .imul), (160, .iload 6), (162, .iadd), (163, .dup2), (164, .laload), (165, .iload 7), (167, .ifCond .eq 27), (170, .iload 5), (172, .iload 6), (174, .if_icmp .ne 9), (177, .ldc2_w 143), (180, .goto 4), (183, .lconst 0), (184, .bipush 12), (186, .iload 4), (188, .idiv), (189, .i2l), (190, .lsub), (191, .goto 4), (194, .lconst 0), (195, .ladd), (196, .lastore), (197, .iinc 6 1), (200, .goto (-93)), (203, .iinc 5 1), (206, .goto (-113)), (209, .iinc 3 1), (212, .goto (-149)), (215, .iconst 0), (216, .istore_n 3), (217, .iload_n 3), (218, .iload_n 2), (219, .if_icmp .ge 30), (222, .aload_n 0), (223, .getfield 41), (226, .iconst 4), (227, .iload_n 3), (228, .imul), (229, .iconst 3), (230, .iadd), (231, .aload_n 0), (232, .getfield 45), (235, .aload_n 0), (236, .getfield 38), (239, .iload_n 3), (240, .iaload), (241, .laload), (242, .lastore), (243, .iinc 3 1), (246, .goto (-29)), (249, .aload_n 0), (250, .iload_n 2), (251, .invokevirtual 145), (254, .aload_n 0), (255, .iload_n 2), (256, .ifCond .ne 7), (259, .lconst 1), (260, .goto 9), (263, .aload_n 0), (264, .getfield 41), (267, .iconst 0), (268, .laload), (269, .putfield 149), (272, .iconst 0), (273, .istore_n 3), (274, .iload_n 3), (275, .iconst 4), (276, .if_icmp .ge 16), (279, .aload_n 0), (280, .getfield 48), (283, .iload_n 3), (284, .lconst 0), (285, .lastore), (286, .iinc 3 1), (289, .goto (-15)), (292, .iconst 0), (293, .istore_n 3), (294, .iload_n 3), (295, .iload_n 2), (296, .if_icmp .ge 30), (299, .aload_n 0), (300, .getfield 48), (303, .aload_n 0), (304, .getfield 38), (307, .iload_n 3), (308, .iaload), (309, .aload_n 0), (310, .getfield 41), (313, .iconst 4), (314, .iload_n 3), (315, .imul), (316, .iconst 3), (317, .iadd), (318, .laload), (319, .lastore), (320, .iinc 3 1), (323, .goto (-29)), (326, .return_)]
def ab_c146 : List (Nat × Instr) := [(0, .iconst 0), (1, .istore_n 2), (2, .iload_n 2), (3, .iconst 4), (4, .if_icmp .ge 91), (7, .aload_n 0), (8, .getfield 45), (11, .iload_n 2), (12, .lconst 0), (13, .lastore), (14, .iconst 0), (15, .istore_n 3), (16, .iload_n 3), (17, .bipush 12), (19, .if_icmp .ge 70), (22, .aload_n 0), (23, .getfield 35), (26, .bipush 12), (28, .iload_n 2), (29, .iadd), (30, .iaload), (31, .iload_n 1), (32, .if_icmp .ne 57), (35, .aload_n 0), (36, .iload_n 3), (37, .iload_n 2), (38, .invokevirtual 136), (41, .iconst (-1)), (42, .if_icmp .eq 41), (45, .aload_n 0), (46, .getfield 45), (49, .iload_n 2), (50, .dup2), (51, .laload), (52, .ldc2_w 143), (55, .aload_n 0), (56, .iload_n 3), (57, .invokevirtual 140), (60, .i2l), (61, .ldiv), (62, .aload_n 0), (63, .iload_n 3), (64, .invokevirtual 153), (67, .i2l), (68, .lmul), (69, .ldc2_w 143), (72, .aload_n 0), (73, .iload_n 3), (74, .iload_n 2), (75, .invokevirtual 136), (78, .i2l), (79, .lmul), (80, .lsub), (81, .ladd), (82, .lastore), (83, .iinc 3 1), (86, .goto (-70)), (89, .iinc 2 1), (92, .goto (-90)), (95, .aload_n 0), (96, .iload_n 1), (97, .invokevirtual 156), (100, .aload_n 0), (101, .ldc2_w 143), (104, .aload_n 0), (105, .getfield 149), (108, .lmul), (109, .putfield 159), (112, .iconst 0), (113, .istore_n 2), (114, .iload_n 2), (115, .iconst 4), (116, .if_icmp .ge 25), (119, .aload_n 0), (120, .getfield 51), (123, .iload_n 2), (124, .ldc2_w 143), (127, .aload_n 0), (128, .getfield 48), (131, .iload_n 2), (132, .laload), (133, .lmul), (134, .lastore), (135, .iinc 2 1), (138, .goto (-24)), (141, .iconst 0), (142, .istore_n 2), (143, .iload_n 2), (144, .bipush 12), (146, .if_icmp .ge 105), (149, .aload_n 0), (150, .getfield 54), (153, .iload_n 2), (154, .lconst 0), (155, .lastore), (156, .aload_n 0), (157, .getfield 35), (160, .iload_n 2), (161, .iaload), (162, .iload_n 1), (163, .if_icmp .ne 82), (166, .aload_n 0), (167, .iload_n 2), (168, .invokevirtual 140), (171, .istore_n 3), (172, .lconst 0), (173, .lstore 4), (175, .iconst 0), (176, .istore 6), (178, .iload 6), (180, .iconst 4), (181, .if_icmp .ge 50), (184, .lload 4), (186, .aload_n 0), (187, .iload_n 2), (188, .iload 6), (190, .invokevirtual 136), (193, .iconst (-1)), (194, .if_icmp .ne 7), (197, .lconst 0), (198, .goto 24), (201, .aload_n 0), (202, .iload_n 2), (203, .iload 6), (205, .invokevirtual 136), (208, .i2l), (209, .aload_n 0), (210, .getfield 149), (213, .lmul), (214, .aload_n 0), (215, .getfield 48), (218, .iload 6), (220, .laload), (221, .ladd), (222, .ladd), (223, .lstore 4), (225, .iinc 6 1), (228, .goto (-50)), (231, .aload_n 0), (232, .getfield 54), (235, .iload_n 2), (236, .lload 4), (238, .bipush 12), (240, .iload_n 3), (241, .idiv), (242, .i2l), (243, .lmul), (244, .lastore), (245, .iinc 2 1), (248, .goto (-105)), (251, .return_)]
def ab_c147 : List (Nat × Instr) := [(0, .iconst 0), (1, .istore_n 2), (2, .iconst 0), (3, .istore_n 3), (4, .iload_n 3), (5, .iconst 4), (6, .if_icmp .ge 32), (9, .iload_n 2), (10, .aload_n 0), (11, .iload_n 1), (12, .iload_n 3), (13, .invokevirtual 136), (16, .iconst (-1)), (17, .if_icmp .ne 7), (20, .iconst 0), (21, .goto 9), (24, .aload_n 0), (25, .iload_n 1), (26, .iload_n 3), (27, .invokevirtual 136), (30, .iadd), (31, .istore_n 2), (32, .iinc 3 1), (35, .goto (-31)), (38, .iload_n 2), (39, .ireturn)]
def ab_c148 : List (Nat × Instr) := [(0, .aload_n 0), (1, .iload_n 1), (2, .iload_n 2), (3, .invokevirtual 136), (6, .i2l), (7, .aload_n 0), (8, .getfield 159), (11, .lmul), (12, .aload_n 0), (13, .getfield 54), (16, .iload_n 1), (17, .laload), (18, .lsub), (19, .aload_n 0), (20, .getfield 51), (23, .iload_n 2), (24, .laload), (25, .ladd), (26, .lreturn)]
def ab_c149 : List (Nat × Instr) := [(0, .aload_n 0), (1, .getfield 35), (4, .bipush 12), (6, .iload_n 1), (7, .iadd), (8, .iaload), (9, .istore_n 3), (10, .iload_n 3), (11, .iconst (-1)), (12, .if_icmp .ne 9), (15, .bipush (-3)), (17, .invokestatic 162), (20, .lreturn), (21, .aload_n 0), (22, .iload_n 3), (23, .invokevirtual 166), (26, .aload_n 0), (27, .getfield 51), (30, .iload_n 1), (31, .laload), (32, .aload_n 0), (33, .getfield 159), (36, .iload_n 2), (37, .invokestatic 169), (40, .lreturn)]
def ab_c150 : List (Nat × Instr) := [(0, .iload_n 1), (1, .invokestatic 112), (4, .ifCond .eq 12), (7, .iload_n 2), (8, .iconst 0), (9, .iconst 1), (10, .invokestatic 101), (13, .ifCond .ne 9), (16, .bipush (-2)), (18, .invokestatic 162), (21, .lreturn), (22, .aload_n 0), (23, .invokevirtual 133), (26, .aload_n 0), (27, .iload_n 1), (28, .iload_n 2), (29, .invokevirtual 173), (32, .lreturn)]
def ab_c151 : List (Nat × Instr) := [(0, .aload_n 0), (1, .getfield 35), (4, .iload_n 1), (5, .iaload), (6, .istore_n 3), (7, .iload_n 3), (8, .iconst (-1)), (9, .if_icmp .ne 9), (12, .bipush (-3)), (14, .invokestatic 162), (17, .lreturn), (18, .aload_n 0), (19, .iload_n 3), (20, .invokevirtual 166), (23, .aload_n 0), (24, .getfield 54), (27, .iload_n 1), (28, .laload), (29, .aload_n 0), (30, .getfield 159), (33, .iload_n 2), (34, .invokestatic 169), (37, .lreturn)]
def ab_c152 : List (Nat × Instr) := [(0, .iload_n 1), (1, .invokestatic 108), (4, .ifCond .eq 12), (7, .iload_n 2), (8, .iconst 0), (9, .iconst 1), (10, .invokestatic 101), (13, .ifCond .ne 9), (16, .bipush (-2)), (18, .invokestatic 162), (21, .lreturn), (22, .aload_n 0), (23, .invokevirtual 133), (26, .aload_n 0), (27, .iload_n 1), (28, .iload_n 2), (29, .invokevirtual 177), (32, .lreturn)]
def ab_c153 : List (Nat × Instr) := [(0, .iload_n 1), (1, .invokestatic 108), (4, .ifCond .eq 19), (7, .iload_n 2), (8, .invokestatic 112), (11, .ifCond .eq 12), (14, .iload_n 3), (15, .iconst 0), (16, .iconst 1), (17, .invokestatic 101), (20, .ifCond .ne 9), (23, .bipush (-2)), (25, .invokestatic 162), (28, .lreturn), (29, .aload_n 0), (30, .invokevirtual 133), (33, .aload_n 0), (34, .iload_n 1), (35, .iload_n 2), (36, .invokevirtual 136), (39, .iconst (-1)), (40, .if_icmp .ne 9), (43, .bipush (-3)), (45, .invokestatic 162), (48, .lreturn), (49, .aload_n 0), (50, .aload_n 0), (51, .getfield 35), (54, .iload_n 1), (55, .iaload), (56, .invokevirtual 166), (59, .aload_n 0), (60, .iload_n 1), (61, .iload_n 2), (62, .invokevirtual 180), (65, .aload_n 0), (66, .getfield 159), (69, .iload_n 3), (70, .invokestatic 169), (73, .lreturn)]
def ab_c154 : List (Nat × Instr) := [(0, .iload_n 1), (1, .invokestatic 112), (4, .ifCond .eq 20), (7, .aload_n 0), (8, .getfield 35), (11, .bipush 12), (13, .iload_n 1), (14, .iadd), (15, .iaload), (16, .iload_n 1), (17, .if_icmp .ne 7), (20, .iconst 1), (21, .goto 4), (24, .iconst 0), (25, .ireturn)]
def ab_c155 : List (Nat × Instr) := [(0, .aload_n 0), (1, .iload_n 1), (2, .invokevirtual 166), (5, .lconst 0), (6, .lstore_n 2), (7, .iconst 0), (8, .istore 4), (10, .iload 4), (12, .bipush 48), (14, .if_icmp .ge 55), (17, .lload_n 2), (18, .aload_n 0), (19, .getfield 29), (22, .iload 4), (24, .iaload), (25, .iconst (-1)), (26, .if_icmp .eq 34), (29, .aload_n 0), (30, .getfield 35), (33, .iload 4), (35, .iconst 4), (36, .idiv), (37, .iaload), (38, .iload_n 1), (39, .if_icmp .ne 21), (42, .aload_n 0), (43, .iload 4), (45, .iconst 4), (46, .idiv), (47, .iload 4), (49, .iconst 4), (50, .irem), (51, .invokevirtual 180), (54, .invokestatic 93), (57, .goto 4), (60, .lconst 0), (61, .ladd), (62, .lstore_n 2), (63, .iinc 4 1), (66, .goto (-56)), (69, .lload_n 2), (70, .lreturn)]
def ab_c156 : List (Nat × Instr) := [(0, .iload_n 1), (1, .invokestatic 112), (4, .ifCond .eq 12), (7, .iload_n 2), (8, .iconst 0), (9, .iconst 1), (10, .invokestatic 101), (13, .ifCond .ne 9), (16, .bipush (-2)), (18, .invokestatic 162), (21, .lreturn), (22, .aload_n 0), (23, .invokevirtual 133), (26, .aload_n 0), (27, .iload_n 1), (28, .invokevirtual 183), (31, .ifCond .eq 19), (34, .aload_n 0), (35, .iload_n 1), (36, .invokevirtual 186), (39, .aload_n 0), (40, .getfield 159), (43, .iload_n 2), (44, .invokestatic 169), (47, .goto 8), (50, .bipush (-3)), (52, .invokestatic 162), (55, .lreturn)]
def ab_c157 : List (Nat × Instr) := [(0, .iload_n 1), (1, .invokestatic 108), (4, .ifCond .eq 12), (7, .iload_n 2), (8, .iconst 0), (9, .iconst 1), (10, .invokestatic 101), (13, .ifCond .ne 6), (16, .bipush (-2)), (18, .ireturn), (19, .aload_n 0), (20, .invokevirtual 133), (23, .aload_n 0), (24, .getfield 35), (27, .iload_n 1), (28, .iaload), (29, .istore_n 3), (30, .iload_n 3), (31, .iconst (-1)), (32, .if_icmp .ne 6), (35, .bipush (-3)), (37, .ireturn), (38, .aload_n 0), (39, .iload_n 3), (40, .invokevirtual 166), (43, .iconst 1), (44, .istore 4), (46, .iconst 0), (47, .istore 5), (49, .iload 5), (51, .bipush 12), (53, .if_icmp .ge 98), (56, .aload_n 0), (57, .getfield 35), (60, .iload 5), (62, .iaload), (63, .iload_n 3), (64, .if_icmp .ne 81), (67, .iload_n 2), (68, .ifCond .ne 28), (71, .aload_n 0), (72, .getfield 54), (75, .iload 5), (77, .laload), (78, .aload_n 0), (79, .getfield 54), (82, .iload_n 1), (83, .laload), (84, .lcmp), (85, .ifCond .le 7), (88, .iconst 1), (89, .goto 39), (92, .iconst 0), (93, .goto 35), (96, .aload_n 0), (97, .iload 5), (99, .invokevirtual 153), (102, .aload_n 0), (103, .iload_n 1), (104, .invokevirtual 140), (107, .imul), (108, .aload_n 0), (109, .iload_n 1), (110, .invokevirtual 153), (113, .aload_n 0), (114, .iload 5), (116, .invokevirtual 140), (119, .imul), (120, .if_icmp .le 7), (123, .iconst 1), (124, .goto 4), (127, .iconst 0), (128, .istore 6), (130, .iload 4), (132, .iload 6), (134, .ifCond .eq 7), (137, .iconst 1), (138, .goto 4), (141, .iconst 0), (142, .iadd), (143, .istore 4), (145, .iinc 5 1), (148, .goto (-99)), (151, .iload 4), (153, .ireturn)]
def ab_c158 : List (Nat × Instr) := [(0, .iload_n 1), (1, .iconst 0), (2, .sipush 255), (5, .invokestatic 101), (8, .ifCond .ne 6), (11, .bipush (-2)), (13, .ireturn), (14, .aload_n 0), (15, .getfield 189), (18, .bipush 60), (20, .if_icmp .ne 6), (23, .bipush (-4)), (25, .ireturn), (26, .aload_n 0), (27, .getfield 57), (30, .aload_n 0), (31, .getfield 189), (34, .iload_n 1), (35, .iastore), (36, .aload_n 0), (37, .dup), (38, .getfield 189), (41, .iconst 1), (42, .iadd), (43, .putfield 189), (46, .aload_n 0), (47, .getfield 189), (50, .ireturn)]
def ab_c159 : List (Nat × Instr) := [(0, .aload_n 0), (1, .getfield 189), (4, .istore_n 1), (5, .aload_n 0), (6, .iconst 0), (7, .putfield 189), (10, .iload_n 1), (11, .ireturn)]
def ab_c160 : List (Nat × Instr) := [(0, .aload_n 0), (1, .getfield 192), (4, .aload_n 0), (5, .getfield 189), (8, .if_icmp .ge 15), (11, .aload_n 0), (12, .getfield 57), (15, .aload_n 0), (16, .getfield 192), (19, .iaload), (20, .goto 4), (23, .iconst (-1)), (24, .ireturn)]
def ab_c161 : List (Nat × Instr) := [(0, .aload_n 0), (1, .invokevirtual 195), (4, .bipush 48), (6, .if_icmp .lt 16), (9, .aload_n 0), (10, .invokevirtual 195), (13, .bipush 57), (15, .if_icmp .gt 7), (18, .iconst 1), (19, .goto 4), (22, .iconst 0), (23, .ireturn)]
def ab_c162 : List (Nat × Instr) := [(0, .aload_n 0), (1, .getfield 198), (4, .ifCond .ne 7), (7, .iconst (-1)), (8, .goto 14), (11, .aload_n 0), (12, .getfield 60), (15, .aload_n 0), (16, .getfield 198), (19, .iconst 1), (20, .isub), (21, .iaload), (22, .istore_n 1), (23, .aload_n 0), (24, .invokevirtual 195), (27, .bipush 65), (29, .isub), (30, .istore_n 2), (31, .iload_n 2), (32, .iload_n 1), (33, .iconst 1), (34, .iadd), (35, .iconst 5), (36, .invokestatic 101), (39, .ifCond .ne 12), (42, .aload_n 0), (43, .aload_n 0), (44, .getfield 192), (47, .putfield 201), (50, .return_), (51, .aload_n 0), (52, .dup), (53, .getfield 192), (56, .iconst 1), (57, .iadd), (58, .putfield 192), (61, .aload_n 0), (62, .invokevirtual 195), (65, .bipush 61), (67, .if_icmp .eq 12), (70, .aload_n 0), (71, .aload_n 0), (72, .getfield 192), (75, .putfield 201), (78, .return_), (79, .aload_n 0), (80, .dup), (81, .getfield 192), (84, .iconst 1), (85, .iadd), (86, .putfield 192), (89, .aload_n 0), (90, .getfield 192), (93, .istore_n 3), (94, .iconst 0), (95, .istore 4), (97, .aload_n 0), (98, .getfield 192), (101, .iload_n 3), (102, .iconst 3), (103, .iadd), (104, .if_icmp .ge 38), (107, .aload_n 0), (108, .invokevirtual 204), (111, .ifCond .eq 31), (114, .bipush 10), (116, .iload 4), (118, .imul), (119, .aload_n 0), (120, .invokevirtual 195), (123, .iadd), (124, .bipush 48), (126, .isub), (127, .istore 4), (129, .aload_n 0), (130, .dup), (131, .getfield 192), (134, .iconst 1), (135, .iadd), (136, .putfield 192), (139, .goto (-42)), (142, .aload_n 0), (143, .getfield 192), (146, .iload_n 3), (147, .if_icmp .ne 12), (150, .aload_n 0), (151, .aload_n 0), (152, .getfield 192), (155, .putfield 201), (158, .return_), (159, .iload 4), (161, .bipush 10), (163, .imul), (164, .istore 4), (166, .aload_n 0), (167, .invokevirtual 195), (170, .bipush 46), (172, .if_icmp .ne 51), (175, .aload_n 0), (176, .dup), (177, .getfield 192), (180, .iconst 1), (181, .iadd), (182, .putfield 192), (185, .aload_n 0), (186, .invokevirtual 204), (189, .ifCond .ne 12), (192, .aload_n 0), (193, .aload_n 0), (194, .getfield 192), (197, .putfield 201), (200, .return_), (201, .iload 4), (203, .aload_n 0), (204, .invokevirtual 195), (207, .bipush 48), (209, .isub), (210, .iadd), (211, .istore 4), (213, .aload_n 0), (214, .dup), (215, .getfield 192), (218, .iconst 1), (219, .iadd), (220, .putfield 192), (223, .iload 4), (225, .sipush 1000), (228, .if_icmp .gt 26), (231, .aload_n 0), (232, .getfield 198), (235, .ifCond .le 25), (238, .iload 4), (240, .aload_n 0), (241, .getfield 63), (244, .aload_n 0), (245, .getfield 198), (248, .iconst 1), (249, .isub), (250, .iaload), (251, .if_icmp .lt 9), (254, .aload_n 0), (255, .iload_n 3), (256, .putfield 201), (259, .return_), (260, .aload_n 0), (261, .getfield 60), (264, .aload_n 0), (265, .getfield 198), (268, .iload_n 2), (269, .iastore), (270, .aload_n 0), (271, .getfield 63), (274, .aload_n 0), (275, .getfield 198), (278, .iload 4), (280, .iastore), (281, .aload_n 0), (282, .dup), (283, .getfield 198), (286, .iconst 1), (287, .iadd), (288, .putfield 198), (291, .return_)]
def ab_c163 : List (Nat × Instr) := [(0, .aload_n 0), (1, .iconst 0), (2, .putfield 192), (5, .aload_n 0), (6, .iconst (-1)), (7, .putfield 201), (10, .aload_n 0), (11, .iconst 0), (12, .putfield 198), (15, .aload_n 0), (16, .invokevirtual 208), (19, .aload_n 0), (20, .getfield 201), (23, .iconst (-1)), (24, .if_icmp .ne 53), (27, .aload_n 0), (28, .getfield 192), (31, .aload_n 0), (32, .getfield 189), (35, .if_icmp .ge 42), (38, .aload_n 0), (39, .invokevirtual 195), (42, .bipush 59), (44, .if_icmp .eq 16), (47, .aload_n 0), (48, .aload_n 0), (49, .getfield 192), (52, .putfield 201), (55, .aload_n 0), (56, .getfield 192), (59, .ireturn), (60, .aload_n 0), (61, .dup), (62, .getfield 192), (65, .iconst 1), (66, .iadd), (67, .putfield 192), (70, .aload_n 0), (71, .invokevirtual 208), (74, .goto (-55)), (77, .aload_n 0), (78, .getfield 201), (81, .ireturn)]
def ab_c164 : List (Nat × Instr) := [(0, .aload_n 0), (1, .invokevirtual 211), (4, .ireturn)]
def ab_c165 : List (Nat × Instr) := [(0, .iconst 0), (1, .istore 6), (3, .iload 6), (5, .aload_n 0), (6, .getfield 198), (9, .if_icmp .ge 42), (12, .ldc2_w 214), (15, .lload_n 1), (16, .lmul), (17, .iload 5), (19, .i2l), (20, .lload_n 3), (21, .lmul), (22, .ladd), (23, .aload_n 0), (24, .getfield 63), (27, .iload 6), (29, .iaload), (30, .i2l), (31, .lload_n 3), (32, .lmul), (33, .lcmp), (34, .ifCond .lt 11), (37, .aload_n 0), (38, .getfield 60), (41, .iload 6), (43, .iaload), (44, .ireturn), (45, .iinc 6 1), (48, .goto (-45)), (51, .bipush 6), (53, .ireturn)]
def ab_c166 : List (Nat × Instr) := [(0, .aload_n 0), (1, .aload_n 0), (2, .iload_n 1), (3, .invokevirtual 153), (6, .i2l), (7, .aload_n 0), (8, .iload_n 1), (9, .invokevirtual 140), (12, .i2l), (13, .iconst 0), (14, .invokevirtual 216), (17, .ireturn)]
def ab_c167 : List (Nat × Instr) := [(0, .iload_n 1), (1, .invokestatic 108), (4, .ifCond .ne 6), (7, .bipush (-2)), (9, .ireturn), (10, .aload_n 0), (11, .invokevirtual 133), (14, .aload_n 0), (15, .invokevirtual 211), (18, .iconst (-1)), (19, .if_icmp .ne 13), (22, .aload_n 0), (23, .getfield 35), (26, .iload_n 1), (27, .iaload), (28, .iconst (-1)), (29, .if_icmp .ne 6), (32, .bipush (-3)), (34, .ireturn), (35, .aload_n 0), (36, .aload_n 0), (37, .getfield 35), (40, .iload_n 1), (41, .iaload), (42, .invokevirtual 166), (45, .aload_n 0), (46, .aload_n 0), (47, .getfield 54), (50, .iload_n 1), (51, .laload), (52, .aload_n 0), (53, .getfield 159), (56, .iconst 0), (57, .invokevirtual 216), (60, .ireturn)]
def ab_c168 : List (Nat × Instr) := [(0, .iload_n 1), (1, .invokestatic 108), (4, .ifCond .ne 6), (7, .bipush (-2)), (9, .ireturn), (10, .aload_n 0), (11, .invokevirtual 133), (14, .aload_n 0), (15, .invokevirtual 211), (18, .iconst (-1)), (19, .if_icmp .ne 13), (22, .aload_n 0), (23, .getfield 35), (26, .iload_n 1), (27, .iaload), (28, .iconst (-1)), (29, .if_icmp .ne 6), (32, .bipush (-3)), (34, .ireturn), (35, .aload_n 0), (36, .aload_n 0), (37, .getfield 35), (40, .iload_n 1), (41, .iaload), (42, .invokevirtual 166), (45, .aload_n 0), (46, .aload_n 0), (47, .getfield 54), (50, .iload_n 1), (51, .laload), (52, .aload_n 0), (53, .getfield 159), (56, .iconst 0), (57, .invokevirtual 216), (60, .aload_n 0), (61, .iload_n 1), (62, .invokevirtual 220), (65, .if_icmp .ne 7), (68, .iconst 0), (69, .goto 4), (72, .iconst 1), (73, .ireturn)]
def ab_c169 : List (Nat × Instr) := [(0, .iload_n 1), (1, .invokestatic 112), (4, .ifCond .eq 16), (7, .iload_n 2), (8, .sipush (-1000)), (11, .sipush 1000), (14, .invokestatic 101), (17, .ifCond .ne 6), (20, .bipush (-2)), (22, .ireturn), (23, .aload_n 0), (24, .invokevirtual 133), (27, .aload_n 0), (28, .invokevirtual 211), (31, .iconst (-1)), (32, .if_icmp .ne 11), (35, .aload_n 0), (36, .iload_n 1), (37, .invokevirtual 183), (40, .ifCond .ne 6), (43, .bipush (-3)), (45, .ireturn), (46, .aload_n 0), (47, .iload_n 1), (48, .invokevirtual 166), (51, .iconst 0), (52, .istore_n 3), (53, .iconst 0), (54, .istore 4), (56, .iload 4), (58, .bipush 12), (60, .if_icmp .ge 63), (63, .iload_n 3), (64, .aload_n 0), (65, .getfield 35), (68, .iload 4), (70, .iaload), (71, .iload_n 1), (72, .if_icmp .ne 42), (75, .aload_n 0), (76, .aload_n 0), (77, .getfield 54), (80, .iload 4), (82, .laload), (83, .aload_n 0), (84, .getfield 159), (87, .iconst 0), (88, .invokevirtual 216), (91, .aload_n 0), (92, .aload_n 0), (93, .getfield 54), (96, .iload 4), (98, .laload), (99, .aload_n 0), (100, .getfield 159), (103, .iload_n 2), (104, .invokevirtual 216), (107, .if_icmp .eq 7), (110, .iconst 1), (111, .goto 4), (114, .iconst 0), (115, .iadd), (116, .istore_n 3), (117, .iinc 4 1), (120, .goto (-64)), (123, .iload_n 3), (124, .ireturn)]
def ab_c170 : List (Nat × Instr) := [(0, .aload_n 0), (1, .iload_n 1), (2, .invokevirtual 140), (5, .istore_n 3), (6, .aload_n 0), (7, .iload_n 2), (8, .invokevirtual 140), (11, .istore 4), (13, .iconst 0), (14, .istore 5), (16, .iload 5), (18, .iconst 4), (19, .if_icmp .ge 60), (22, .aload_n 0), (23, .getfield 45), (26, .iload 5), (28, .aload_n 0), (29, .iload_n 1), (30, .iload 5), (32, .invokevirtual 136), (35, .iconst (-1)), (36, .if_icmp .ne 7), (39, .lconst 0), (40, .goto 9), (43, .ldc2_w 143), (46, .iload_n 3), (47, .i2l), (48, .ldiv), (49, .aload_n 0), (50, .iload_n 2), (51, .iload 5), (53, .invokevirtual 136), (56, .iconst (-1)), (57, .if_icmp .ne 7), (60, .lconst 0), (61, .goto 10), (64, .ldc2_w 143), (67, .iload 4), (69, .i2l), (70, .ldiv), (71, .lsub), (72, .lastore), (73, .iinc 5 1), (76, .goto (-60)), (79, .aload_n 0), (80, .aload_n 0), (81, .getfield 35), (84, .iload_n 1), (85, .iaload), (86, .invokevirtual 156), (89, .aload_n 0), (90, .getfield 149), (93, .lstore 5), (95, .aload_n 0), (96, .getfield 149), (99, .lneg), (100, .lstore 7), (102, .iconst 0), (103, .istore 9), (105, .iload 9), (107, .iconst 4), (108, .if_icmp .ge 63), (111, .lload 5), (113, .aload_n 0), (114, .iload_n 1), (115, .iload 9), (117, .invokevirtual 136), (120, .iconst (-1)), (121, .if_icmp .ne 7), (124, .lconst 0), (125, .goto 10), (128, .aload_n 0), (129, .getfield 48), (132, .iload 9), (134, .laload), (135, .ladd), (136, .lstore 5), (138, .lload 7), (140, .aload_n 0), (141, .iload_n 2), (142, .iload 9), (144, .invokevirtual 136), (147, .iconst (-1)), (148, .if_icmp .ne 7), (151, .lconst 0), (152, .goto 10), (155, .aload_n 0), (156, .getfield 48), (159, .iload 9), (161, .laload), (162, .ladd), (163, .lstore 7), (165, .iinc 9 1), (168, .goto (-63)), (171, .lload 5), (173, .bipush 12), (175, .iload_n 3), (176, .idiv), (177, .i2l), (178, .lmul), (179, .lload 7), (181, .bipush 12), (183, .iload 4), (185, .idiv), (186, .i2l), (187, .lmul), (188, .lsub), (189, .lstore 9), (191, .lload 9), (193, .ldc2_w 143), (196, .aload_n 0), (197, .getfield 149), (200, .lmul), (201, .invokestatic 97), (204, .lstore 11), (206, .aload_n 0), (207, .lload 9), (209, .lload 11), (211, .ldiv), (212, .putfield 223), (215, .aload_n 0), (216, .ldc2_w 143), (219, .aload_n 0), (220, .getfield 149), (223, .lmul), (224, .lload 11), (226, .ldiv), (227, .putfield 226), (230, .return_)]
def ab_c171 : List (Nat × Instr) := [(0, .iload_n 1), (1, .invokestatic 108), (4, .ifCond .eq 24), (7, .iload_n 2), (8, .invokestatic 108), (11, .ifCond .eq 17), (14, .iload_n 1), (15, .iload_n 2), (16, .if_icmp .eq 12), (19, .iload_n 3), (20, .iconst 0), (21, .iconst 1), (22, .invokestatic 101), (25, .ifCond .ne 9), (28, .bipush (-2)), (30, .invokestatic 162), (33, .lreturn), (34, .aload_n 0), (35, .invokevirtual 133), (38, .aload_n 0), (39, .getfield 35), (42, .iload_n 1), (43, .iaload), (44, .iconst (-1)), (45, .if_icmp .eq 18), (48, .aload_n 0), (49, .getfield 35), (52, .iload_n 1), (53, .iaload), (54, .aload_n 0), (55, .getfield 35), (58, .iload_n 2), (59, .iaload), (60, .if_icmp .eq 9), (63, .bipush (-3)), (65, .invokestatic 162), (68, .lreturn), (69, .aload_n 0), (70, .iload_n 1), (71, .iload_n 2), (72, .invokevirtual 229), (75, .iload_n 3), (76, .ifCond .ne 10), (79, .aload_n 0), (80, .getfield 223), (83, .goto 7), (86, .aload_n 0), (87, .getfield 226), (90, .lreturn)]
def ab_c172 : List (Nat × Instr) := [(0, .aload_n 0), (1, .iconst (-1)), (2, .putfield 233), (5, .aload_n 0), (6, .lconst 0), (7, .putfield 236), (10, .aload_n 0), (11, .lconst 1), (12, .putfield 239), (15, .iconst 0), (16, .istore_n 1), (17, .iload_n 1), (18, .bipush 12), (20, .if_icmp .ge 104), (23, .iload_n 1), (24, .iconst 1), (25, .iadd), (26, .istore_n 2), (27, .iload_n 2), (28, .bipush 12), (30, .if_icmp .ge 88), (33, .aload_n 0), (34, .getfield 35), (37, .iload_n 1), (38, .iaload), (39, .iconst (-1)), (40, .if_icmp .eq 72), (43, .aload_n 0), (44, .getfield 35), (47, .iload_n 1), (48, .iaload), (49, .aload_n 0), (50, .getfield 35), (53, .iload_n 2), (54, .iaload), (55, .if_icmp .ne 57), (58, .aload_n 0), (59, .iload_n 1), (60, .iload_n 2), (61, .invokevirtual 229), (64, .aload_n 0), (65, .getfield 223), (68, .aload_n 0), (69, .getfield 239), (72, .lmul), (73, .aload_n 0), (74, .getfield 236), (77, .aload_n 0), (78, .getfield 226), (81, .lmul), (82, .lcmp), (83, .ifCond .le 29), (86, .aload_n 0), (87, .aload_n 0), (88, .getfield 223), (91, .putfield 236), (94, .aload_n 0), (95, .aload_n 0), (96, .getfield 226), (99, .putfield 239), (102, .aload_n 0), (103, .iload_n 1), (104, .putfield 233), (107, .aload_n 0), (108, .iload_n 2), (109, .putfield 242), (112, .iinc 2 1), (115, .goto (-88)), (118, .iinc 1 1), (121, .goto (-104)), (124, .aload_n 0), (125, .getfield 233), (128, .iconst (-1)), (129, .if_icmp .eq 7), (132, .iconst 1), (133, .goto 4), (136, .iconst 0), (137, .ireturn)]
def ab_c173 : List (Nat × Instr) := [(0, .aload_n 0), (1, .invokevirtual 245), (4, .ifCond .ne 9), (7, .bipush (-3)), (9, .invokestatic 162), (12, .lreturn), (13, .iload_n 1), (14, .ifCond .ne 10), (17, .aload_n 0), (18, .getfield 236), (21, .goto 33), (24, .iload_n 1), (25, .iconst 1), (26, .if_icmp .ne 10), (29, .aload_n 0), (30, .getfield 239), (33, .goto 21), (36, .iload_n 1), (37, .iconst 2), (38, .if_icmp .ne 11), (41, .aload_n 0), (42, .getfield 233), (45, .i2l), (46, .goto 8), (49, .aload_n 0), (50, .getfield 242), (53, .i2l), (54, .lreturn)]
def ab_c174 : List (Nat × Instr) := [(0, .iload_n 1), (1, .iconst 0), (2, .iconst 3), (3, .invokestatic 101), (6, .ifCond .ne 9), (9, .bipush (-2)), (11, .invokestatic 162), (14, .lreturn), (15, .aload_n 0), (16, .invokevirtual 133), (19, .aload_n 0), (20, .iload_n 1), (21, .invokevirtual 248), (24, .lreturn)]
def ab_c175 : List (Nat × Instr) := [(0, .iload_n 1), (1, .iconst 0), (2, .iconst 3), (3, .invokestatic 101), (6, .ifCond .ne 9), (9, .bipush (-2)), (11, .invokestatic 162), (14, .lreturn), (15, .aload_n 0), (16, .invokevirtual 133), (19, .iconst (-1)), (20, .istore_n 2), (21, .lconst 0), (22, .lstore_n 3), (23, .lconst 1), (24, .lstore 5), (26, .iconst 0), (27, .istore 7), (29, .iload 7), (31, .bipush 48), (33, .if_icmp .ge 116), (36, .aload_n 0), (37, .getfield 29), (40, .iload 7), (42, .iaload), (43, .iconst (-1)), (44, .if_icmp .ne 99), (47, .aload_n 0), (48, .getfield 35), (51, .iload 7), (53, .iconst 4), (54, .idiv), (55, .iaload), (56, .iconst (-1)), (57, .if_icmp .eq 86), (60, .aload_n 0), (61, .getfield 35), (64, .iload 7), (66, .iconst 4), (67, .idiv), (68, .iaload), (69, .aload_n 0), (70, .getfield 35), (73, .bipush 12), (75, .iload 7), (77, .iconst 4), (78, .irem), (79, .iadd), (80, .iaload), (81, .if_icmp .ne 62), (84, .aload_n 0), (85, .getfield 29), (88, .iload 7), (90, .iconst 0), (91, .iastore), (92, .aload_n 0), (93, .invokevirtual 245), (96, .ifCond .eq 39), (99, .iload_n 2), (100, .iconst (-1)), (101, .if_icmp .eq 20), (104, .aload_n 0), (105, .getfield 236), (108, .lload 5), (110, .lmul), (111, .lload_n 3), (112, .aload_n 0), (113, .getfield 239), (116, .lmul), (117, .lcmp), (118, .ifCond .ge 17), (121, .iload 7), (123, .istore_n 2), (124, .aload_n 0), (125, .getfield 236), (128, .lstore_n 3), (129, .aload_n 0), (130, .getfield 239), (133, .lstore 5), (135, .aload_n 0), (136, .getfield 29), (139, .iload 7), (141, .iconst (-1)), (142, .iastore), (143, .iinc 7 1), (146, .goto (-117)), (149, .iload_n 2), (150, .iconst (-1)), (151, .if_icmp .ne 9), (154, .bipush (-3)), (156, .invokestatic 162), (159, .lreturn), (160, .iload_n 1), (161, .ifCond .ne 10), (164, .iload_n 2), (165, .iconst 4), (166, .idiv), (167, .i2l), (168, .goto 26), (171, .iload_n 1), (172, .iconst 1), (173, .if_icmp .ne 10), (176, .iload_n 2), (177, .iconst 4), (178, .irem), (179, .i2l), (180, .goto 14), (183, .iload_n 1), (184, .iconst 2), (185, .if_icmp .ne 7), (188, .lload_n 3), (189, .goto 5), (192, .lload 5), (194, .lreturn)]
def ab_c176 : List (Nat × Instr) := [(0, .aload_n 0), (1, .getfield 29), (4, .iload_n 1), (5, .iaload), (6, .istore_n 2), (7, .aload_n 0), (8, .getfield 29), (11, .iload_n 1), (12, .iconst (-1)), (13, .iastore), (14, .aload_n 0), (15, .invokevirtual 130), (18, .aload_n 0), (19, .getfield 35), (22, .iload_n 1), (23, .iconst 4), (24, .idiv), (25, .iaload), (26, .iconst (-1)), (27, .if_icmp .eq 25), (30, .aload_n 0), (31, .getfield 35), (34, .iload_n 1), (35, .iconst 4), (36, .idiv), (37, .iaload), (38, .aload_n 0), (39, .getfield 35), (42, .bipush 12), (44, .iload_n 1), (45, .iconst 4), (46, .irem), (47, .iadd), (48, .iaload), (49, .if_icmp .eq 7), (52, .iconst 1), (53, .goto 4), (56, .iconst 0), (57, .istore_n 3), (58, .aload_n 0), (59, .getfield 29), (62, .iload_n 1), (63, .iload_n 2), (64, .iastore), (65, .aload_n 0), (66, .invokevirtual 130), (69, .iload_n 3), (70, .ireturn)]
def ab_c177 : List (Nat × Instr) := [(0, .iload_n 1), (1, .invokestatic 108), (4, .ifCond .eq 10), (7, .iload_n 2), (8, .invokestatic 112), (11, .ifCond .ne 6), (14, .bipush (-2)), (16, .ireturn), (17, .aload_n 0), (18, .invokevirtual 133), (21, .aload_n 0), (22, .iload_n 1), (23, .iload_n 2), (24, .invokevirtual 136), (27, .iconst (-1)), (28, .if_icmp .ne 8), (31, .bipush (-3)), (33, .goto 20), (36, .aload_n 0), (37, .iconst 4), (38, .iload_n 1), (39, .imul), (40, .iload_n 2), (41, .iadd), (42, .invokevirtual 251), (45, .ifCond .eq 7), (48, .iconst 1), (49, .goto 4), (52, .iconst 0), (53, .ireturn)]
def ab_c178 : List (Nat × Instr) := [(0, .iload_n 1), (1, .invokestatic 112), (4, .ifCond .eq 13), (7, .iload_n 2), (8, .iconst 0), (9, .bipush 99), (11, .invokestatic 101), (14, .ifCond .ne 6), (17, .bipush (-2)), (19, .ireturn), (20, .aload_n 0), (21, .getfield 26), (24, .iload_n 1), (25, .iaload), (26, .istore_n 3), (27, .aload_n 0), (28, .getfield 26), (31, .iload_n 1), (32, .iload_n 2), (33, .iastore), (34, .iload_n 3), (35, .ireturn)]
def ab_c179 : List (Nat × Instr) := [(0, .iload_n 1), (1, .iconst (-1)), (2, .if_icmp .ge 6), (5, .bipush (-2)), (7, .ireturn), (8, .aload_n 0), (9, .invokevirtual 133), (12, .iconst 0), (13, .istore_n 2), (14, .iconst 0), (15, .istore_n 3), (16, .iconst 1), (17, .istore 4), (19, .iload 4), (21, .ifCond .eq 158), (24, .iconst (-1)), (25, .istore 5), (27, .iconst 0), (28, .istore 6), (30, .iload 6), (32, .bipush 48), (34, .if_icmp .ge 89), (37, .aload_n 0), (38, .getfield 35), (41, .iload 6), (43, .iconst 4), (44, .idiv), (45, .iaload), (46, .istore 7), (48, .aload_n 0), (49, .getfield 35), (52, .bipush 12), (54, .iload 6), (56, .iconst 4), (57, .irem), (58, .iadd), (59, .iaload), (60, .istore 8), (62, .iload 7), (64, .iconst (-1)), (65, .if_icmp .eq 52), (68, .iload 8), (70, .iconst (-1)), (71, .if_icmp .eq 46), (74, .iload 7), (76, .iload 8), (78, .if_icmp .eq 39), (81, .iload 5), (83, .iconst (-1)), (84, .if_icmp .eq 24), (87, .aload_n 0), (88, .getfield 26), (91, .iload 6), (93, .iconst 4), (94, .irem), (95, .iaload), (96, .aload_n 0), (97, .getfield 26), (100, .iload 5), (102, .iconst 4), (103, .irem), (104, .iaload), (105, .if_icmp .ge 8), (108, .iload 6), (110, .goto 5), (113, .iload 5), (115, .istore 5), (117, .iinc 6 1), (120, .goto (-90)), (123, .iload 5), (125, .iconst (-1)), (126, .if_icmp .eq 7), (129, .iconst 1), (130, .goto 4), (133, .iconst 0), (134, .istore 4), (136, .iload 4), (138, .ifCond .eq 38), (141, .iload_n 3), (142, .iload_n 1), (143, .if_icmp .ne 6), (146, .iload 5), (148, .ireturn), (149, .iload_n 2), (150, .aload_n 0), (151, .getfield 26), (154, .iload 5), (156, .iconst 4), (157, .irem), (158, .iaload), (159, .iadd), (160, .istore_n 2), (161, .iinc 3 1), (164, .aload_n 0), (165, .getfield 29), (168, .iload 5), (170, .iconst 0), (171, .iastore), (172, .aload_n 0), (173, .invokevirtual 130), (176, .goto (-157)), (179, .iload_n 1), (180, .iconst (-1)), (181, .if_icmp .ne 7), (184, .iload_n 2), (185, .goto 4), (188, .iconst (-1)), (189, .ireturn)]
def ab_c180 : List (Nat × Instr) := [(0, .iload_n 1), (1, .invokestatic 112), (4, .ifCond .eq 12), (7, .iload_n 2), (8, .iconst 0), (9, .iconst 1), (10, .invokestatic 101), (13, .ifCond .ne 9), (16, .bipush (-2)), (18, .invokestatic 162), (21, .lreturn), (22, .aload_n 0), (23, .invokevirtual 133), (26, .iconst 0), (27, .istore_n 3), (28, .iconst 0), (29, .istore 4), (31, .iload 4), (33, .bipush 12), (35, .if_icmp .ge 28), (38, .iload_n 3), (39, .aload_n 0), (40, .iload 4), (42, .iload_n 1), (43, .invokevirtual 136), (46, .iconst (-1)), (47, .if_icmp .ne 7), (50, .iconst 0), (51, .goto 4), (54, .iconst 1), (55, .iadd), (56, .istore_n 3), (57, .iinc 4 1), (60, .goto (-29)), (63, .iload_n 3), (64, .iconst 2), (65, .if_icmp .ge 9), (68, .bipush (-3)), (70, .invokestatic 162), (73, .lreturn), (74, .aload_n 0), (75, .aload_n 0), (76, .getfield 35), (79, .bipush 12), (81, .iload_n 1), (82, .iadd), (83, .iaload), (84, .invokevirtual 166), (87, .iload_n 3), (88, .iconst 2), (89, .idiv), (90, .istore 4), (92, .lconst 0), (93, .lstore 5), (95, .iconst 0), (96, .istore 7), (98, .iload 7), (100, .bipush 12), (102, .if_icmp .ge 128), (105, .aload_n 0), (106, .iload 7), (108, .iload_n 1), (109, .invokevirtual 136), (112, .iconst (-1)), (113, .if_icmp .eq 111), (116, .iconst 0), (117, .istore 8), (119, .iconst 0), (120, .istore 9), (122, .iload 9), (124, .bipush 12), (126, .if_icmp .ge 55), (129, .iload 8), (131, .aload_n 0), (132, .iload 9), (134, .iload_n 1), (135, .invokevirtual 136), (138, .iconst (-1)), (139, .if_icmp .eq 32), (142, .aload_n 0), (143, .getfield 32), (146, .iconst 4), (147, .iload 9), (149, .imul), (150, .iload_n 1), (151, .iadd), (152, .iaload), (153, .aload_n 0), (154, .getfield 32), (157, .iconst 4), (158, .iload 7), (160, .imul), (161, .iload_n 1), (162, .iadd), (163, .iaload), (164, .if_icmp .ge 7), (167, .iconst 1), (168, .goto 4), (171, .iconst 0), (172, .iadd), (173, .istore 8), (175, .iinc 9 1), (178, .goto (-56)), (181, .lload 5), (183, .iload 8), (185, .iload_n 3), (186, .iload 4), (188, .isub), (189, .if_icmp .lt 13), (192, .aload_n 0), (193, .iload 7), (195, .iload_n 1), (196, .invokevirtual 180), (199, .goto 22), (202, .iload 8), (204, .iload 4), (206, .if_icmp .ge 14), (209, .aload_n 0), (210, .iload 7), (212, .iload_n 1), (213, .invokevirtual 180), (216, .lneg), (217, .goto 4), (220, .lconst 0), (221, .ladd), (222, .lstore 5), (224, .iinc 7 1), (227, .goto (-129)), (230, .lload 5), (232, .aload_n 0), (233, .getfield 159), (236, .iload 4), (238, .i2l), (239, .lmul), (240, .iload_n 2), (241, .invokestatic 169), (244, .lreturn)]
def ab_c181 : List (Nat × Instr) := [(0, .iload_n 0), (1, .ifCond .le 7), (4, .iconst 1), (5, .goto 12), (8, .iload_n 0), (9, .ifCond .ge 7), (12, .iconst (-1)), (13, .goto 4), (16, .iconst 0), (17, .ireturn)]
def ab_c182 : List (Nat × Instr) := [(0, .iconst 0), (1, .istore_n 1), (2, .iconst 0), (3, .istore_n 2), (4, .iload_n 2), (5, .aload_n 0), (6, .getfield 254), (9, .if_icmp .ge 73), (12, .iload_n 2), (13, .iconst 1), (14, .iadd), (15, .istore_n 3), (16, .iload_n 3), (17, .aload_n 0), (18, .getfield 254), (21, .if_icmp .ge 55), (24, .iload_n 1), (25, .aload_n 0), (26, .getfield 66), (29, .iload_n 2), (30, .iaload), (31, .aload_n 0), (32, .getfield 66), (35, .iload_n 3), (36, .iaload), (37, .isub), (38, .invokestatic 257), (41, .aload_n 0), (42, .getfield 69), (45, .aload_n 0), (46, .getfield 72), (49, .iload_n 2), (50, .iaload), (51, .iaload), (52, .aload_n 0), (53, .getfield 69), (56, .aload_n 0), (57, .getfield 72), (60, .iload_n 3), (61, .iaload), (62, .iaload), (63, .isub), (64, .invokestatic 257), (67, .imul), (68, .iadd), (69, .istore_n 1), (70, .iinc 3 1), (73, .goto (-57)), (76, .iinc 2 1), (79, .goto (-75)), (82, .iload_n 1), (83, .ireturn)]
def ab_c183 : List (Nat × Instr) := [(0, .aload_n 0), (1, .getfield 254), (4, .iconst 2), (5, .isub), (6, .istore_n 1), (7, .iload_n 1), (8, .ifCond .lt 26), (11, .aload_n 0), (12, .getfield 72), (15, .iload_n 1), (16, .iaload), (17, .aload_n 0), (18, .getfield 72), (21, .iload_n 1), (22, .iconst 1), (23, .iadd), (24, .iaload), (25, .if_icmp .le 9), (28, .iinc 1 (-1)), (31, .goto (-24)), (34, .iload_n 1), (35, .ifCond .ge 5), (38, .iconst 0), (39, .ireturn), (40, .aload_n 0), (41, .getfield 254), (44, .iconst 1), (45, .isub), (46, .istore_n 2), (47, .aload_n 0), (48, .getfield 72), (51, .iload_n 2), (52, .iaload), (53, .aload_n 0), (54, .getfield 72), (57, .iload_n 1), (58, .iaload), (59, .if_icmp .ge 9), (62, .iinc 2 (-1)), (65, .goto (-18)), (68, .aload_n 0), (69, .getfield 72), (72, .iload_n 1), (73, .iaload), (74, .istore_n 3), (75, .aload_n 0), (76, .getfield 72), (79, .iload_n 1), (80, .aload_n 0), (81, .getfield 72), (84, .iload_n 2), (85, .iaload), (86, .iastore), (87, .aload_n 0), (88, .getfield 72), (91, .iload_n 2), (92, .iload_n 3), (93, .iastore), (94, .iload_n 1), (95, .iconst 1), (96, .iadd), (97, .istore 4), (99, .aload_n 0), (100, .getfield 254), (103, .iconst 1), (104, .isub), (105, .istore 5), (107, .iload 4), (109, .iload 5), (111, .if_icmp .ge 42), (114, .aload_n 0), (115, .getfield 72), (118, .iload 4), (120, .iaload), (121, .istore_n 3), (122, .aload_n 0), (123, .getfield 72), (126, .iload 4), (128, .aload_n 0), (129, .getfield 72), (132, .iload 5), (134, .iaload), (135, .iastore), (136, .aload_n 0), (137, .getfield 72), (140, .iload 5), (142, .iload_n 3), (143, .iastore), (144, .iinc 4 1), (147, .iinc 5 (-1)), (150, .goto (-43)), (153, .iconst 1), (154, .ireturn)]
def ab_c184 : List (Nat × Instr) := [(0, .iload_n 1), (1, .invokestatic 112), (4, .ifCond .eq 24), (7, .iload_n 2), (8, .invokestatic 112), (11, .ifCond .eq 17), (14, .iload_n 1), (15, .iload_n 2), (16, .if_icmp .eq 12), (19, .iload_n 3), (20, .iconst 0), (21, .iconst 1), (22, .invokestatic 101), (25, .ifCond .ne 6), (28, .bipush (-2)), (30, .ireturn), (31, .aload_n 0), (32, .invokevirtual 133), (35, .aload_n 0), (36, .iconst 0), (37, .putfield 254), (40, .iconst 0), (41, .istore 4), (43, .iload 4), (45, .bipush 12), (47, .if_icmp .ge 86), (50, .aload_n 0), (51, .iload 4), (53, .iload_n 1), (54, .invokevirtual 136), (57, .iconst (-1)), (58, .if_icmp .eq 69), (61, .aload_n 0), (62, .iload 4), (64, .iload_n 2), (65, .invokevirtual 136), (68, .iconst (-1)), (69, .if_icmp .eq 58), (72, .aload_n 0), (73, .getfield 66), (76, .aload_n 0), (77, .getfield 254), (80, .aload_n 0), (81, .iload 4), (83, .iload_n 1), (84, .invokevirtual 136), (87, .iastore), (88, .aload_n 0), (89, .getfield 69), (92, .aload_n 0), (93, .getfield 254), (96, .aload_n 0), (97, .iload 4), (99, .iload_n 2), (100, .invokevirtual 136), (103, .iastore), (104, .aload_n 0), (105, .getfield 72), (108, .aload_n 0), (109, .getfield 254), (112, .aload_n 0), (113, .getfield 254), (116, .iastore), (117, .aload_n 0), (118, .dup), (119, .getfield 254), (122, .iconst 1), (123, .iadd), (124, .putfield 254), (127, .iinc 4 1), (130, .goto (-87)), (133, .aload_n 0), (134, .getfield 254), (137, .iconst 2), (138, .if_icmp .ge 6), (141, .bipush (-3)), (143, .ireturn), (144, .aload_n 0), (145, .invokevirtual 260), (148, .istore 4), (150, .iload_n 3), (151, .ifCond .ne 6), (154, .iload 4), (156, .ireturn), (157, .aload_n 0), (158, .getfield 254), (161, .bipush 7), (163, .if_icmp .le 6), (166, .bipush (-4)), (168, .ireturn), (169, .lconst 0), (170, .lstore 5), (172, .lconst 0), (173, .lstore 7), (175, .iconst 1), (176, .istore 9), (178, .iload 9), (180, .ifCond .eq 37), (183, .lload 5), (185, .lconst 1), (186, .ladd), (187, .lstore 5), (189, .lload 7), (191, .aload_n 0), (192, .invokevirtual 260), (195, .iload 4), (197, .if_icmp .lt 7), (200, .lconst 1), (201, .goto 4), (204, .lconst 0), (205, .ladd), (206, .lstore 7), (208, .aload_n 0), (209, .invokevirtual 263), (212, .istore 9), (214, .goto (-36)), (217, .ldc2_w 266), (220, .lload 7), (222, .lmul), (223, .lload 5), (225, .ldiv), (226, .l2i), (227, .ireturn)]
def ab_c185 : List (Nat × Instr) := [(0, .iconst (-1)), (1, .istore_n 1), (2, .lconst 0), (3, .lstore_n 2), (4, .lconst 1), (5, .lstore 4), (7, .iconst 0), (8, .istore 6), (10, .iload 6), (12, .bipush 48), (14, .if_icmp .ge 111), (17, .aload_n 0), (18, .getfield 29), (21, .iload 6), (23, .iaload), (24, .iconst (-1)), (25, .if_icmp .eq 94), (28, .aload_n 0), (29, .aload_n 0), (30, .getfield 35), (33, .iload 6), (35, .iconst 4), (36, .idiv), (37, .iaload), (38, .invokevirtual 166), (41, .aload_n 0), (42, .iload 6), (44, .iconst 4), (45, .idiv), (46, .iload 6), (48, .iconst 4), (49, .irem), (50, .invokevirtual 180), (53, .invokestatic 93), (56, .aload_n 0), (57, .getfield 159), (60, .iconst 0), (61, .invokestatic 169), (64, .lstore 7), (66, .aload_n 0), (67, .iload 6), (69, .iconst 4), (70, .idiv), (71, .iload 6), (73, .iconst 4), (74, .irem), (75, .invokevirtual 180), (78, .invokestatic 93), (81, .aload_n 0), (82, .getfield 159), (85, .iconst 1), (86, .invokestatic 169), (89, .lstore 9), (91, .iload_n 1), (92, .iconst (-1)), (93, .if_icmp .eq 16), (96, .lload 7), (98, .lload 4), (100, .lmul), (101, .lload_n 2), (102, .lload 9), (104, .lmul), (105, .lcmp), (106, .ifCond .le 13), (109, .iload 6), (111, .istore_n 1), (112, .lload 7), (114, .lstore_n 2), (115, .lload 9), (117, .lstore 4), (119, .iinc 6 1), (122, .goto (-112)), (125, .iload_n 1), (126, .ireturn)]
def ab_c186 : List (Nat × Instr) := [(0, .aload_n 0), (1, .invokevirtual 133), (4, .aload_n 0), (5, .invokevirtual 268), (8, .ireturn)]
def ab_c187 : List (Nat × Instr) := [(0, .iload_n 1), (1, .invokestatic 108), (4, .ifCond .eq 19), (7, .iload_n 2), (8, .invokestatic 112), (11, .ifCond .eq 12), (14, .iload_n 3), (15, .iconst 0), (16, .iconst 1), (17, .invokestatic 101), (20, .ifCond .ne 9), (23, .bipush (-2)), (25, .invokestatic 162), (28, .lreturn), (29, .aload_n 0), (30, .invokevirtual 133), (33, .aload_n 0), (34, .iload_n 1), (35, .iload_n 2), (36, .invokevirtual 136), (39, .iconst (-1)), (40, .if_icmp .ne 9), (43, .bipush (-3)), (45, .invokestatic 162), (48, .lreturn), (49, .aload_n 0), (50, .getfield 35), (53, .iload_n 1), (54, .iaload), (55, .istore 4), (57, .iconst 0), (58, .istore 5), (60, .iload 5), (62, .bipush 48), (64, .if_icmp .ge 41), (67, .aload_n 0), (68, .getfield 29), (71, .iload 5), (73, .aload_n 0), (74, .getfield 35), (77, .iload 5), (79, .iconst 4), (80, .idiv), (81, .iaload), (82, .iload 4), (84, .if_icmp .ne 13), (87, .aload_n 0), (88, .getfield 29), (91, .iload 5), (93, .iaload), (94, .goto 4), (97, .iconst (-1)), (98, .iastore), (99, .iinc 5 1), (102, .goto (-42)), (105, .aload_n 0), (106, .getfield 29), (109, .iconst 4), (110, .iload_n 1), (111, .imul), (112, .iload_n 2), (113, .iadd), (114, .iconst (-1)), (115, .iastore), (116, .aload_n 0), (117, .invokevirtual 130), (120, .lconst 0), (121, .lstore 5), (123, .lconst 1), (124, .lstore 7), (126, .iconst 0), (127, .istore 9), (129, .iload 9), (131, .iconst 4), (132, .if_icmp .ge 90), (135, .aload_n 0), (136, .iload 9), (138, .invokevirtual 183), (141, .ifCond .eq 75), (144, .aload_n 0), (145, .iload 9), (147, .invokevirtual 186), (150, .lstore 10), (152, .lload 10), (154, .aload_n 0), (155, .getfield 159), (158, .iconst 0), (159, .invokestatic 169), (162, .lstore 12), (164, .lload 10), (166, .aload_n 0), (167, .getfield 159), (170, .iconst 1), (171, .invokestatic 169), (174, .lstore 14), (176, .lload 5), (178, .lload 14), (180, .lmul), (181, .lload 12), (183, .lload 7), (185, .lmul), (186, .ladd), (187, .lstore 16), (189, .lload 7), (191, .lload 14), (193, .lmul), (194, .lstore 18), (196, .lload 16), (198, .lload 18), (200, .iconst 0), (201, .invokestatic 169), (204, .lstore 5), (206, .lload 16), (208, .lload 18), (210, .iconst 1), (211, .invokestatic 169), (214, .lstore 7), (216, .iinc 9 1), (219, .goto (-90)), (222, .iload_n 3), (223, .ifCond .ne 8), (226, .lload 5), (228, .goto 5), (231, .lload 7), (233, .lreturn)]
def ab_c188 : List (Nat × Instr) := [(0, .aload_n 0), (1, .iload_n 1), (2, .putfield 271), (5, .bipush (-10)), (7, .iload_n 1), (8, .isub), (9, .ireturn)]
def ab_c189 : List (Nat × Instr) := [(0, .iload_n 0), (1, .iconst 0), (2, .iconst 3), (3, .invokestatic 101), (6, .ireturn)]
def ab_c190 : List (Nat × Instr) := [(0, .iload_n 1), (1, .invokestatic 123), (4, .ifCond .eq 18), (7, .iload_n 2), (8, .iconst 0), (9, .iconst 2), (10, .invokestatic 101), (13, .ifCond .eq 9), (16, .iload_n 3), (17, .bipush 48), (19, .if_icmp .le 6), (22, .bipush (-2)), (24, .ireturn), (25, .iload_n 3), (26, .ifCond .ge 9), (29, .aload_n 0), (30, .iconst 5), (31, .invokevirtual 126), (34, .ireturn), (35, .aload_n 0), (36, .getfield 75), (39, .iload_n 1), (40, .iconst 1), (41, .bastore), (42, .aload_n 0), (43, .getfield 79), (46, .iload_n 1), (47, .iload_n 2), (48, .iastore), (49, .aload_n 0), (50, .getfield 82), (53, .iload_n 1), (54, .iload_n 3), (55, .iastore), (56, .iconst 0), (57, .istore 4), (59, .iload 4), (61, .bipush 48), (63, .if_icmp .ge 22), (66, .aload_n 0), (67, .getfield 85), (70, .bipush 48), (72, .iload_n 1), (73, .imul), (74, .iload 4), (76, .iadd), (77, .iconst 0), (78, .iastore), (79, .iinc 4 1), (82, .goto (-23)), (85, .iload_n 3), (86, .ireturn)]
def ab_c191 : List (Nat × Instr) := [(0, .iload_n 1), (1, .invokestatic 123), (4, .ifCond .ne 6), (7, .bipush (-2)), (9, .ireturn), (10, .aload_n 0), (11, .getfield 75), (14, .iload_n 1), (15, .baload), (16, .ifCond .ne 9), (19, .aload_n 0), (20, .iconst 1), (21, .invokevirtual 126), (24, .ireturn), (25, .aload_n 0), (26, .getfield 75), (29, .iload_n 1), (30, .iconst 0), (31, .bastore), (32, .aload_n 0), (33, .getfield 82), (36, .iload_n 1), (37, .iaload), (38, .ireturn)]
def ab_c192 : List (Nat × Instr) := [(0, .aload_n 0), (1, .getfield 75), (4, .iload_n 1), (5, .baload), (6, .ifCond .ne 7), (9, .iconst 1), (10, .goto 38), (13, .aload_n 0), (14, .getfield 79), (17, .iload_n 1), (18, .iaload), (19, .iload_n 2), (20, .if_icmp .eq 7), (23, .iconst 3), (24, .goto 24), (27, .iload_n 3), (28, .iconst 0), (29, .aload_n 0), (30, .getfield 82), (33, .iload_n 1), (34, .iaload), (35, .iconst 1), (36, .isub), (37, .invokestatic 101), (40, .ifCond .eq 7), (43, .iconst 0), (44, .goto 4), (47, .iconst 2), (48, .ireturn)]
def ab_c193 : List (Nat × Instr) := [(0, .aload_n 0), (1, .getfield 85), (4, .bipush 48), (6, .iload_n 1), (7, .imul), (8, .iload_n 2), (9, .iadd), (10, .aload_n 0), (11, .getfield 79), (14, .iload_n 1), (15, .iaload), (16, .ifCond .ne 8), (19, .iload_n 3), (20, .i2b), (21, .goto 19), (24, .aload_n 0), (25, .getfield 79), (28, .iload_n 1), (29, .iaload), (30, .iconst 1), (31, .if_icmp .ne 8), (34, .iload_n 3), (35, .i2s), (36, .goto 4), (39, .iload_n 3), (40, .iastore), (41, .return_)]
def ab_c194 : List (Nat × Instr) := [(0, .iload_n 1), (1, .invokestatic 123), (4, .ifCond .eq 12), (7, .iload_n 2), (8, .iconst 0), (9, .iconst 2), (10, .invokestatic 101), (13, .ifCond .ne 6), (16, .bipush (-2)), (18, .ireturn), (19, .aload_n 0), (20, .iload_n 1), (21, .iload_n 2), (22, .iload_n 3), (23, .invokevirtual 274), (26, .istore 5), (28, .iload 5), (30, .ifCond .le 10), (33, .aload_n 0), (34, .iload 5), (36, .invokevirtual 126), (39, .ireturn), (40, .aload_n 0), (41, .iload_n 1), (42, .iload_n 3), (43, .iload 4), (45, .invokevirtual 278), (48, .iconst 1), (49, .ireturn)]
def ab_c195 : List (Nat × Instr) := [(0, .iload_n 1), (1, .invokestatic 123), (4, .ifCond .eq 12), (7, .iload_n 2), (8, .iconst 0), (9, .iconst 2), (10, .invokestatic 101), (13, .ifCond .ne 7), (16, .ldc_w 282), (19, .ireturn), (20, .aload_n 0), (21, .iload_n 1), (22, .iload_n 2), (23, .iload_n 3), (24, .invokevirtual 274), (27, .istore 4), (29, .iload 4), (31, .ifCond .le 13), (34, .aload_n 0), (35, .iload 4), (37, .putfield 271), (40, .ldc_w 282), (43, .ireturn), (44, .aload_n 0), (45, .getfield 85), (48, .bipush 48), (50, .iload_n 1), (51, .imul), (52, .iload_n 3), (53, .iadd), (54, .iaload), (55, .ireturn)]
def ab_c196 : List (Nat × Instr) := [(0, .iload_n 1), (1, .invokestatic 123), (4, .ifCond .eq 10), (7, .iload_n 3), (8, .invokestatic 123), (11, .ifCond .ne 6), (14, .bipush (-2)), (16, .ireturn), (17, .aload_n 0), (18, .getfield 75), (21, .iload_n 1), (22, .baload), (23, .ifCond .eq 12), (26, .aload_n 0), (27, .getfield 75), (30, .iload_n 3), (31, .baload), (32, .ifCond .ne 9), (35, .aload_n 0), (36, .iconst 1), (37, .invokevirtual 126), (40, .ireturn), (41, .aload_n 0), (42, .getfield 79), (45, .iload_n 1), (46, .iaload), (47, .aload_n 0), (48, .getfield 79), (51, .iload_n 3), (52, .iaload), (53, .if_icmp .eq 9), (56, .aload_n 0), (57, .iconst 4), (58, .invokevirtual 126), (61, .ireturn), (62, .iload_n 2), (63, .ifCond .lt 48), (66, .iload 4), (68, .ifCond .lt 43), (71, .iload 5), (73, .ifCond .lt 38), (76, .iload_n 2), (77, .i2l), (78, .iload 5), (80, .i2l), (81, .ladd), (82, .aload_n 0), (83, .getfield 82), (86, .iload_n 1), (87, .iaload), (88, .i2l), (89, .lcmp), (90, .ifCond .gt 21), (93, .iload 4), (95, .i2l), (96, .iload 5), (98, .i2l), (99, .ladd), (100, .aload_n 0), (101, .getfield 82), (104, .iload_n 3), (105, .iaload), (106, .i2l), (107, .lcmp), (108, .ifCond .le 9), (111, .aload_n 0), (112, .iconst 2), (113, .invokevirtual 126), (116, .ireturn), (117, .iconst 0), (118, .istore 6), (120, .iload 6), (122, .iload 5), (124, .if_icmp .ge 30), (127, .aload_n 0), (128, .getfield 88), (131, .iload 6), (133, .aload_n 0), (134, .getfield 85), (137, .bipush 48), (139, .iload_n 1), (140, .imul), (141, .iload_n 2), (142, .iadd), (143, .iload 6), (145, .iadd), (146, .iaload), (147, .iastore), (148, .iinc 6 1), (151, .goto (-31)), (154, .iconst 0), (155, .istore 6), (157, .iload 6), (159, .iload 5), (161, .if_icmp .ge 31), (164, .aload_n 0), (165, .getfield 85), (168, .bipush 48), (170, .iload_n 3), (171, .imul), (172, .iload 4), (174, .iadd), (175, .iload 6), (177, .iadd), (178, .aload_n 0), (179, .getfield 88), (182, .iload 6), (184, .iaload), (185, .iastore), (186, .iinc 6 1), (189, .goto (-32)), (192, .iconst 1), (193, .ireturn)]
def ab_c197 : List (Nat × Instr) := [(0, .iload_n 1), (1, .invokestatic 112), (4, .ifCond .eq 10), (7, .iload_n 2), (8, .invokestatic 123), (11, .ifCond .ne 6), (14, .bipush (-2)), (16, .ireturn), (17, .aload_n 0), (18, .getfield 75), (21, .iload_n 2), (22, .baload), (23, .ifCond .ne 9), (26, .aload_n 0), (27, .iconst 1), (28, .invokevirtual 126), (31, .ireturn), (32, .aload_n 0), (33, .invokevirtual 133), (36, .iconst 0), (37, .istore_n 3), (38, .iload_n 3), (39, .bipush 12), (41, .if_icmp .ge 31), (44, .iload_n 3), (45, .aload_n 0), (46, .getfield 82), (49, .iload_n 2), (50, .iaload), (51, .if_icmp .ge 21), (54, .aload_n 0), (55, .iload_n 2), (56, .iload_n 3), (57, .aload_n 0), (58, .iload_n 3), (59, .iload_n 1), (60, .invokevirtual 136), (63, .invokevirtual 278), (66, .iinc 3 1), (69, .goto (-31)), (72, .iload_n 3), (73, .ireturn)]
def ab_c198 : List (Nat × Instr) := [(0, .iconst 0), (1, .istore_n 2), (2, .iconst 0), (3, .istore_n 3), (4, .iload_n 3), (5, .bipush 48), (7, .if_icmp .ge 91), (10, .aload_n 0), (11, .getfield 29), (14, .iload_n 3), (15, .iaload), (16, .iconst (-1)), (17, .if_icmp .eq 7), (20, .iconst 1), (21, .goto 4), (24, .iconst 0), (25, .istore 4), (27, .iload_n 1), (28, .ifCond .ne 18), (31, .iload_n 2), (32, .iload 4), (34, .ifCond .eq 7), (37, .iconst 1), (38, .goto 4), (41, .iconst 0), (42, .iadd), (43, .goto 48), (46, .iload_n 1), (47, .bipush 6), (49, .if_icmp .ne 26), (52, .iload_n 2), (53, .iload 4), (55, .ifCond .eq 15), (58, .aload_n 0), (59, .iload_n 3), (60, .invokevirtual 251), (63, .ifCond .eq 7), (66, .iconst 1), (67, .goto 4), (70, .iconst 0), (71, .iadd), (72, .goto 19), (75, .iload 4), (77, .ifCond .eq 13), (80, .iload_n 2), (81, .iconst 1), (82, .iload_n 3), (83, .iconst 4), (84, .idiv), (85, .ishl), (86, .ior), (87, .goto 4), (90, .iload_n 2), (91, .istore_n 2), (92, .iinc 3 1), (95, .goto (-91)), (98, .iload_n 2), (99, .ireturn)]
def ab_c199 : List (Nat × Instr) := [(0, .iconst 0), (1, .istore_n 1), (2, .iconst 0), (3, .istore_n 2), (4, .iload_n 2), (5, .iconst 4), (6, .if_icmp .ge 25), (9, .iload_n 1), (10, .aload_n 0), (11, .iload_n 2), (12, .invokevirtual 183), (15, .ifCond .eq 7), (18, .iconst 1), (19, .goto 4), (22, .iconst 0), (23, .iadd), (24, .istore_n 1), (25, .iinc 2 1), (28, .goto (-24)), (31, .iload_n 1), (32, .ireturn)]
def ab_c200 : List (Nat × Instr) := [(0, .aload_n 0), (1, .invokevirtual 133), (4, .iload_n 1), (5, .tableswitch 87 0 8 #[51, 57, 62, 67, 72, 77, 51, 51, 82]), (56, .aload_n 0), (57, .iload_n 1), (58, .invokevirtual 283), (61, .ireturn), (62, .aload_n 0), (63, .getfield 105), (66, .ireturn), (67, .aload_n 0), (68, .getfield 22), (71, .ireturn), (72, .aload_n 0), (73, .invokevirtual 115), (76, .ireturn), (77, .aload_n 0), (78, .invokevirtual 286), (81, .ireturn), (82, .aload_n 0), (83, .getfield 189), (86, .ireturn), (87, .aload_n 0), (88, .getfield 271), (91, .ireturn), (92, .bipush (-2)), (94, .ireturn)]
def ab_c201 : List (Nat × Instr) := [(0, .ldc2_w 289), (3, .lstore_n 1), (4, .iconst 0), (5, .istore_n 3), (6, .iload_n 3), (7, .bipush 8), (9, .if_icmp .ge 22), (12, .ldc2_w 291), (15, .lload_n 1), (16, .lmul), (17, .aload_n 0), (18, .iload_n 3), (19, .invokevirtual 293), (22, .i2l), (23, .ladd), (24, .lstore_n 1), (25, .iinc 3 1), (28, .goto (-22)), (31, .aload_n 0), (32, .invokevirtual 133), (35, .iconst 0), (36, .istore_n 3), (37, .iload_n 3), (38, .bipush 12), (40, .if_icmp .ge 65), (43, .iconst 0), (44, .istore 4), (46, .iload 4), (48, .iconst 4), (49, .if_icmp .ge 24), (52, .ldc2_w 291), (55, .lload_n 1), (56, .lmul), (57, .aload_n 0), (58, .iload_n 3), (59, .iload 4), (61, .invokevirtual 136), (64, .i2l), (65, .ladd), (66, .lstore_n 1), (67, .iinc 4 1), (70, .goto (-24)), (73, .ldc2_w 291), (76, .lload_n 1), (77, .lmul), (78, .aload_n 0), (79, .iload_n 3), (80, .iconst 0), (81, .invokevirtual 177), (84, .ladd), (85, .lstore_n 1), (86, .ldc2_w 291), (89, .lload_n 1), (90, .lmul), (91, .aload_n 0), (92, .iload_n 3), (93, .iconst 1), (94, .invokevirtual 177), (97, .ladd), (98, .lstore_n 1), (99, .iinc 3 1), (102, .goto (-65)), (105, .iconst 0), (106, .istore_n 3), (107, .iload_n 3), (108, .iconst 4), (109, .if_icmp .ge 35), (112, .ldc2_w 291), (115, .lload_n 1), (116, .lmul), (117, .aload_n 0), (118, .iload_n 3), (119, .iconst 0), (120, .invokevirtual 173), (123, .ladd), (124, .lstore_n 1), (125, .ldc2_w 291), (128, .lload_n 1), (129, .lmul), (130, .aload_n 0), (131, .iload_n 3), (132, .iconst 1), (133, .invokevirtual 173), (136, .ladd), (137, .lstore_n 1), (138, .iinc 3 1), (141, .goto (-34)), (144, .iconst 0), (145, .istore_n 3), (146, .iload_n 3), (147, .iconst 4), (148, .if_icmp .ge 21), (151, .ldc2_w 291), (154, .lload_n 1), (155, .lmul), (156, .aload_n 0), (157, .iload_n 3), (158, .invokevirtual 248), (161, .ladd), (162, .lstore_n 1), (163, .iinc 3 1), (166, .goto (-20)), (169, .ldc2_w 291), (172, .lload_n 1), (173, .lmul), (174, .aload_n 0), (175, .invokevirtual 211), (178, .i2l), (179, .ladd), (180, .lstore_n 1), (181, .ldc2_w 291), (184, .lload_n 1), (185, .lmul), (186, .aload_n 0), (187, .invokevirtual 268), (190, .i2l), (191, .ladd), (192, .lreturn)]
def ab_c202 : List (Nat × Instr) := [(0, .iload_n 0), (1, .iload_n 0), (2, .iconst 1), (3, .iushr), (4, .ldc_w 265), (7, .iand), (8, .isub), (9, .istore_n 0), (10, .iload_n 0), (11, .ldc_w 266), (14, .iand), (15, .iload_n 0), (16, .iconst 2), (17, .iushr), (18, .ldc_w 266), (21, .iand), (22, .iadd), (23, .istore_n 0), (24, .iload_n 0), (25, .iload_n 0), (26, .iconst 4), (27, .iushr), (28, .iadd), (29, .ldc_w 267), (32, .iand), (33, .istore_n 0), (34, .iload_n 0), (35, .iload_n 0), (36, .bipush 8), (38, .iushr), (39, .iadd), (40, .istore_n 0), (41, .iload_n 0), (42, .iload_n 0), (43, .bipush 16), (45, .iushr), (46, .iadd), (47, .istore_n 0), (48, .iload_n 0), (49, .bipush 63), (51, .iand), (52, .ireturn)]
def ab_cL : List (Nat × Instr) := [(0, .new 7), (3, .dup), (4, .invokespecial 9), (7, .astore_n 1), (8, .new 10), (11, .dup), (12, .invokespecial 12), (15, .astore_n 2), (16, .iconst 0), (17, .istore_n 3), (18, .iload_n 3), (19, .aload_n 0), (20, .arraylength), (21, .bipush 6), (23, .isub), (24, .if_icmp .gt 1258), (27, .aload_n 0), (28, .iload_n 3), (29, .iaload), (30, .bipush 63), (32, .iand), (33, .tableswitch 1243 0 33 #[151, 204, 237, 260, 293, 326, 360, 394, 438, 472, 505, 528, 541, 554, 577, 600, 633, 677, 701, 725, 758, 791, 814, 848, 891, 904, 948, 991, 1014, 1067, 1110, 1173, 1206, 1229]), (184, .aload_n 1), (185, .aload_n 0), (186, .iload_n 3), (187, .iconst 1), (188, .iadd), (189, .iaload), (190, .aload_n 0), (191, .iload_n 3), (192, .iconst 2), (193, .iadd), (194, .iaload), (195, .aload_n 0), (196, .iload_n 3), (197, .iconst 3), (198, .iadd), (199, .iaload), (200, .aload_n 0), (201, .iload_n 3), (202, .iconst 4), (203, .iadd), (204, .iaload), (205, .invokevirtual 13), (208, .aload_n 2), (209, .aload_n 0), (210, .iload_n 3), (211, .iconst 1), (212, .iadd), (213, .iaload), (214, .aload_n 0), (215, .iload_n 3), (216, .iconst 2), (217, .iadd), (218, .iaload), (219, .aload_n 0), (220, .iload_n 3), (221, .iconst 3), (222, .iadd), (223, .iaload), (224, .aload_n 0), (225, .iload_n 3), (226, .iconst 4), (227, .iadd), (228, .iaload), (229, .invokevirtual 17), (232, .if_icmp .eq 1044), (235, .iconst 0), (236, .ireturn), (237, .aload_n 1), (238, .aload_n 0), (239, .iload_n 3), (240, .iconst 1), (241, .iadd), (242, .iaload), (243, .aload_n 0), (244, .iload_n 3), (245, .iconst 2), (246, .iadd), (247, .iaload), (248, .invokevirtual 18), (251, .aload_n 2), (252, .aload_n 0), (253, .iload_n 3), (254, .iconst 1), (255, .iadd), (256, .iaload), (257, .aload_n 0), (258, .iload_n 3), (259, .iconst 2), (260, .iadd), (261, .iaload), (262, .invokevirtual 22), (265, .if_icmp .eq 1011), (268, .iconst 0), (269, .ireturn), (270, .aload_n 1), (271, .aload_n 0), (272, .iload_n 3), (273, .iconst 1), (274, .iadd), (275, .iaload), (276, .invokevirtual 23), (279, .aload_n 2), (280, .aload_n 0), (281, .iload_n 3), (282, .iconst 1), (283, .iadd), (284, .iaload), (285, .invokevirtual 27), (288, .if_icmp .eq 988), (291, .iconst 0), (292, .ireturn), (293, .aload_n 1), (294, .aload_n 0), (295, .iload_n 3), (296, .iconst 1), (297, .iadd), (298, .iaload), (299, .aload_n 0), (300, .iload_n 3), (301, .iconst 2), (302, .iadd), (303, .iaload), (304, .invokevirtual 28), (307, .aload_n 2), (308, .aload_n 0), (309, .iload_n 3), (310, .iconst 1), (311, .iadd), (312, .iaload), (313, .aload_n 0), (314, .iload_n 3), (315, .iconst 2), (316, .iadd), (317, .iaload), (318, .invokevirtual 31), (321, .if_icmp .eq 955), (324, .iconst 0), (325, .ireturn), (326, .aload_n 1), (327, .aload_n 0), (328, .iload_n 3), (329, .iconst 1), (330, .iadd), (331, .iaload), (332, .aload_n 0), (333, .iload_n 3), (334, .iconst 2), (335, .iadd), (336, .iaload), (337, .invokevirtual 32), (340, .aload_n 2), (341, .aload_n 0), (342, .iload_n 3), (343, .iconst 1), (344, .iadd), (345, .iaload), (346, .aload_n 0), (347, .iload_n 3), (348, .iconst 2), (349, .iadd), (350, .iaload), (351, .invokevirtual 35), (354, .if_icmp .eq 922), (357, .iconst 0), (358, .ireturn), (359, .aload_n 1), (360, .aload_n 0), (361, .iload_n 3), (362, .iconst 1), (363, .iadd), (364, .iaload), (365, .aload_n 0), (366, .iload_n 3), (367, .iconst 2), (368, .iadd), (369, .iaload), (370, .invokevirtual 36), (373, .aload_n 2), (374, .aload_n 0), (375, .iload_n 3), (376, .iconst 1), (377, .iadd), (378, .iaload), (379, .aload_n 0), (380, .iload_n 3), (381, .iconst 2), (382, .iadd), (383, .iaload), (384, .invokevirtual 40), (387, .lcmp), (388, .ifCond .eq 888), (391, .iconst 0), (392, .ireturn), (393, .aload_n 1), (394, .aload_n 0), (395, .iload_n 3), (396, .iconst 1), (397, .iadd), (398, .iaload), (399, .aload_n 0), (400, .iload_n 3), (401, .iconst 2), (402, .iadd), (403, .iaload), (404, .invokevirtual 41), (407, .aload_n 2), (408, .aload_n 0), (409, .iload_n 3), (410, .iconst 1), (411, .iadd), (412, .iaload), (413, .aload_n 0), (414, .iload_n 3), (415, .iconst 2), (416, .iadd), (417, .iaload), (418, .invokevirtual 44), (421, .lcmp), (422, .ifCond .eq 854), (425, .iconst 0), (426, .ireturn), (427, .aload_n 1), (428, .aload_n 0), (429, .iload_n 3), (430, .iconst 1), (431, .iadd), (432, .iaload), (433, .aload_n 0), (434, .iload_n 3), (435, .iconst 2), (436, .iadd), (437, .iaload), (438, .aload_n 0), (439, .iload_n 3), (440, .iconst 3), (441, .iadd), (442, .iaload), (443, .invokevirtual 45), (446, .aload_n 2), (447, .aload_n 0), (448, .iload_n 3), (449, .iconst 1), (450, .iadd), (451, .iaload), (452, .aload_n 0), (453, .iload_n 3), (454, .iconst 2), (455, .iadd), (456, .iaload), (457, .aload_n 0), (458, .iload_n 3), (459, .iconst 3), (460, .iadd), (461, .iaload), (462, .invokevirtual 49), (465, .lcmp), (466, .ifCond .eq 810), (469, .iconst 0), (470, .ireturn), (471, .aload_n 1), (472, .aload_n 0), (473, .iload_n 3), (474, .iconst 1), (475, .iadd), (476, .iaload), (477, .aload_n 0), (478, .iload_n 3), (479, .iconst 2), (480, .iadd), (481, .iaload), (482, .invokevirtual 50), (485, .aload_n 2), (486, .aload_n 0), (487, .iload_n 3), (488, .iconst 1), (489, .iadd), (490, .iaload), (491, .aload_n 0), (492, .iload_n 3), (493, .iconst 2), (494, .iadd), (495, .iaload), (496, .invokevirtual 53), (499, .lcmp), (500, .ifCond .eq 776), (503, .iconst 0), (504, .ireturn), (505, .aload_n 1), (506, .aload_n 0), (507, .iload_n 3), (508, .iconst 1), (509, .iadd), (510, .iaload), (511, .aload_n 0), (512, .iload_n 3), (513, .iconst 2), (514, .iadd), (515, .iaload), (516, .invokevirtual 54), (519, .aload_n 2), (520, .aload_n 0), (521, .iload_n 3), (522, .iconst 1), (523, .iadd), (524, .iaload), (525, .aload_n 0), (526, .iload_n 3), (527, .iconst 2), (528, .iadd), (529, .iaload), (530, .invokevirtual 57), (533, .if_icmp .eq 743), (536, .iconst 0), (537, .ireturn), (538, .aload_n 1), (539, .aload_n 0), (540, .iload_n 3), (541, .iconst 1), (542, .iadd), (543, .iaload), (544, .invokevirtual 58), (547, .aload_n 2), (548, .aload_n 0), (549, .iload_n 3), (550, .iconst 1), (551, .iadd), (552, .iaload), (553, .invokevirtual 61), (556, .if_icmp .eq 720), (559, .iconst 0), (560, .ireturn), (561, .aload_n 1), (562, .invokevirtual 62), (565, .aload_n 2), (566, .invokevirtual 66), (569, .if_icmp .eq 707), (572, .iconst 0), (573, .ireturn), (574, .aload_n 1), (575, .invokevirtual 67), (578, .aload_n 2), (579, .invokevirtual 70), (582, .if_icmp .eq 694), (585, .iconst 0), (586, .ireturn), (587, .aload_n 1), (588, .aload_n 0), (589, .iload_n 3), (590, .iconst 1), (591, .iadd), (592, .iaload), (593, .invokevirtual 71), (596, .aload_n 2), (597, .aload_n 0), (598, .iload_n 3), (599, .iconst 1), (600, .iadd), (601, .iaload), (602, .invokevirtual 74), (605, .if_icmp .eq 671), (608, .iconst 0), (609, .ireturn), (610, .aload_n 1), (611, .aload_n 0), (612, .iload_n 3), (613, .iconst 1), (614, .iadd), (615, .iaload), (616, .invokevirtual 75), (619, .aload_n 2), (620, .aload_n 0), (621, .iload_n 3), (622, .iconst 1), (623, .iadd), (624, .iaload), (625, .invokevirtual 78), (628, .if_icmp .eq 648), (631, .iconst 0), (632, .ireturn), (633, .aload_n 1), (634, .aload_n 0), (635, .iload_n 3), (636, .iconst 1), (637, .iadd), (638, .iaload), (639, .aload_n 0), (640, .iload_n 3), (641, .iconst 2), (642, .iadd), (643, .iaload), (644, .invokevirtual 79), (647, .aload_n 2), (648, .aload_n 0), (649, .iload_n 3), (650, .iconst 1), (651, .iadd), (652, .iaload), (653, .aload_n 0), (654, .iload_n 3), (655, .iconst 2), (656, .iadd), (657, .iaload), (658, .invokevirtual 82), (661, .if_icmp .eq 615), (664, .iconst 0), (665, .ireturn), (666, .aload_n 1), (667, .aload_n 0), (668, .iload_n 3), (669, .iconst 1), (670, .iadd), (671, .iaload), (672, .aload_n 0), (673, .iload_n 3), (674, .iconst 2), (675, .iadd), (676, .iaload), (677, .aload_n 0), (678, .iload_n 3), (679, .iconst 3), (680, .iadd), (681, .iaload), (682, .invokevirtual 83), (685, .aload_n 2), (686, .aload_n 0), (687, .iload_n 3), (688, .iconst 1), (689, .iadd), (690, .iaload), (691, .aload_n 0), (692, .iload_n 3), (693, .iconst 2), (694, .iadd), (695, .iaload), (696, .aload_n 0), (697, .iload_n 3), (698, .iconst 3), (699, .iadd), (700, .iaload), (701, .invokevirtual 86), (704, .lcmp), (705, .ifCond .eq 571), (708, .iconst 0), (709, .ireturn), (710, .aload_n 1), (711, .aload_n 0), (712, .iload_n 3), (713, .iconst 1), (714, .iadd), (715, .iaload), (716, .invokevirtual 87), (719, .aload_n 2), (720, .aload_n 0), (721, .iload_n 3), (722, .iconst 1), (723, .iadd), (724, .iaload), (725, .invokevirtual 91), (728, .lcmp), (729, .ifCond .eq 547), (732, .iconst 0), (733, .ireturn), (734, .aload_n 1), (735, .aload_n 0), (736, .iload_n 3), (737, .iconst 1), (738, .iadd), (739, .iaload), (740, .invokevirtual 92), (743, .aload_n 2), (744, .aload_n 0), (745, .iload_n 3), (746, .iconst 1), (747, .iadd), (748, .iaload), (749, .invokevirtual 95), (752, .lcmp), (753, .ifCond .eq 523), (756, .iconst 0), (757, .ireturn), (758, .aload_n 1), (759, .aload_n 0), (760, .iload_n 3), (761, .iconst 1), (762, .iadd), (763, .iaload), (764, .aload_n 0), (765, .iload_n 3), (766, .iconst 2), (767, .iadd), (768, .iaload), (769, .invokevirtual 96), (772, .aload_n 2), (773, .aload_n 0), (774, .iload_n 3), (775, .iconst 1), (776, .iadd), (777, .iaload), (778, .aload_n 0), (779, .iload_n 3), (780, .iconst 2), (781, .iadd), (782, .iaload), (783, .invokevirtual 99), (786, .if_icmp .eq 490), (789, .iconst 0), (790, .ireturn), (791, .aload_n 1), (792, .aload_n 0), (793, .iload_n 3), (794, .iconst 1), (795, .iadd), (796, .iaload), (797, .aload_n 0), (798, .iload_n 3), (799, .iconst 2), (800, .iadd), (801, .iaload), (802, .invokevirtual 100), (805, .aload_n 2), (806, .aload_n 0), (807, .iload_n 3), (808, .iconst 1), (809, .iadd), (810, .iaload), (811, .aload_n 0), (812, .iload_n 3), (813, .iconst 2), (814, .iadd), (815, .iaload), (816, .invokevirtual 103), (819, .if_icmp .eq 457), (822, .iconst 0), (823, .ireturn), (824, .aload_n 1), (825, .aload_n 0), (826, .iload_n 3), (827, .iconst 1), (828, .iadd), (829, .iaload), (830, .invokevirtual 104), (833, .aload_n 2), (834, .aload_n 0), (835, .iload_n 3), (836, .iconst 1), (837, .iadd), (838, .iaload), (839, .invokevirtual 107), (842, .if_icmp .eq 434), (845, .iconst 0), (846, .ireturn), (847, .aload_n 1), (848, .aload_n 0), (849, .iload_n 3), (850, .iconst 1), (851, .iadd), (852, .iaload), (853, .aload_n 0), (854, .iload_n 3), (855, .iconst 2), (856, .iadd), (857, .iaload), (858, .invokevirtual 108), (861, .aload_n 2), (862, .aload_n 0), (863, .iload_n 3), (864, .iconst 1), (865, .iadd), (866, .iaload), (867, .aload_n 0), (868, .iload_n 3), (869, .iconst 2), (870, .iadd), (871, .iaload), (872, .invokevirtual 111), (875, .lcmp), (876, .ifCond .eq 400), (879, .iconst 0), (880, .ireturn), (881, .aload_n 1), (882, .aload_n 0), (883, .iload_n 3), (884, .iconst 1), (885, .iadd), (886, .iaload), (887, .aload_n 0), (888, .iload_n 3), (889, .iconst 2), (890, .iadd), (891, .iaload), (892, .aload_n 0), (893, .iload_n 3), (894, .iconst 3), (895, .iadd), (896, .iaload), (897, .invokevirtual 112), (900, .aload_n 2), (901, .aload_n 0), (902, .iload_n 3), (903, .iconst 1), (904, .iadd), (905, .iaload), (906, .aload_n 0), (907, .iload_n 3), (908, .iconst 2), (909, .iadd), (910, .iaload), (911, .aload_n 0), (912, .iload_n 3), (913, .iconst 3), (914, .iadd), (915, .iaload), (916, .invokevirtual 116), (919, .if_icmp .eq 357), (922, .iconst 0), (923, .ireturn), (924, .aload_n 1), (925, .invokevirtual 117), (928, .aload_n 2), (929, .invokevirtual 120), (932, .if_icmp .eq 344), (935, .iconst 0), (936, .ireturn), (937, .aload_n 1), (938, .aload_n 0), (939, .iload_n 3), (940, .iconst 1), (941, .iadd), (942, .iaload), (943, .aload_n 0), (944, .iload_n 3), (945, .iconst 2), (946, .iadd), (947, .iaload), (948, .aload_n 0), (949, .iload_n 3), (950, .iconst 3), (951, .iadd), (952, .iaload), (953, .invokevirtual 121), (956, .aload_n 2), (957, .aload_n 0), (958, .iload_n 3), (959, .iconst 1), (960, .iadd), (961, .iaload), (962, .aload_n 0), (963, .iload_n 3), (964, .iconst 2), (965, .iadd), (966, .iaload), (967, .aload_n 0), (968, .iload_n 3), (969, .iconst 3), (970, .iadd), (971, .iaload), (972, .invokevirtual 124), (975, .lcmp), (976, .ifCond .eq 300), (979, .iconst 0), (980, .ireturn), (981, .aload_n 1), (982, .aload_n 0), (983, .iload_n 3), (984, .iconst 1), (985, .iadd), (986, .iaload), (987, .aload_n 0), (988, .iload_n 3), (989, .iconst 2), (990, .iadd), (991, .iaload), (992, .aload_n 0), (993, .iload_n 3), (994, .iconst 3), (995, .iadd), (996, .iaload), (997, .invokevirtual 125), (1000, .aload_n 2), (1001, .aload_n 0), (1002, .iload_n 3), (1003, .iconst 1), (1004, .iadd), (1005, .iaload), (1006, .aload_n 0), (1007, .iload_n 3), (1008, .iconst 2), (1009, .iadd), (1010, .iaload), (1011, .aload_n 0), (1012, .iload_n 3), (1013, .iconst 3), (1014, .iadd), (1015, .iaload), (1016, .invokevirtual 128), (1019, .if_icmp .eq 257), (1022, .iconst 0), (1023, .ireturn), (1024, .aload_n 1), (1025, .aload_n 0), (1026, .iload_n 3), (1027, .iconst 1), (1028, .iadd), (1029, .iaload), (1030, .invokevirtual 129), (1033, .aload_n 2), (1034, .aload_n 0), (1035, .iload_n 3), (1036, .iconst 1), (1037, .iadd), (1038, .iaload), (1039, .invokevirtual 132), (1042, .if_icmp .eq 234), (1045, .iconst 0), (1046, .ireturn), (1047, .aload_n 1), (1048, .aload_n 0), (1049, .iload_n 3), (1050, .iconst 1), (1051, .iadd), (1052, .iaload), (1053, .aload_n 0), (1054, .iload_n 3), (1055, .iconst 2), (1056, .iadd), (1057, .iaload), (1058, .aload_n 0), (1059, .iload_n 3), (1060, .iconst 3), (1061, .iadd), (1062, .iaload), (1063, .aload_n 0), (1064, .iload_n 3), (1065, .iconst 4), (1066, .iadd), (1067, .iaload), (1068, .invokevirtual 133), (1071, .aload_n 2), (1072, .aload_n 0), (1073, .iload_n 3), (1074, .iconst 1), (1075, .iadd), (1076, .iaload), (1077, .aload_n 0), (1078, .iload_n 3), (1079, .iconst 2), (1080, .iadd), (1081, .iaload), (1082, .aload_n 0), (1083, .iload_n 3), (1084, .iconst 3), (1085, .iadd), (1086, .iaload), (1087, .aload_n 0), (1088, .iload_n 3), (1089, .iconst 4), (1090, .iadd), (1091, .iaload), (1092, .invokevirtual 136), (1095, .if_icmp .eq 181), (1098, .iconst 0), (1099, .ireturn), (1100, .aload_n 1), (1101, .aload_n 0), (1102, .iload_n 3), (1103, .iconst 1), (1104, .iadd), (1105, .iaload), (1106, .aload_n 0), (1107, .iload_n 3), (1108, .iconst 2), (1109, .iadd), (1110, .iaload), (1111, .aload_n 0), (1112, .iload_n 3), (1113, .iconst 3), (1114, .iadd), (1115, .iaload), (1116, .invokevirtual 137), (1119, .aload_n 2), (1120, .aload_n 0), (1121, .iload_n 3), (1122, .iconst 1), (1123, .iadd), (1124, .iaload), (1125, .aload_n 0), (1126, .iload_n 3), (1127, .iconst 2), (1128, .iadd), (1129, .iaload), (1130, .aload_n 0), (1131, .iload_n 3), (1132, .iconst 3), (1133, .iadd), (1134, .iaload), (1135, .invokevirtual 140), (1138, .if_icmp .eq 138), (1141, .iconst 0), (1142, .ireturn), (1143, .aload_n 1), (1144, .aload_n 0), (1145, .iload_n 3), (1146, .iconst 1), (1147, .iadd), (1148, .iaload), (1149, .aload_n 0), (1150, .iload_n 3), (1151, .iconst 2), (1152, .iadd), (1153, .iaload), (1154, .aload_n 0), (1155, .iload_n 3), (1156, .iconst 3), (1157, .iadd), (1158, .iaload), (1159, .aload_n 0), (1160, .iload_n 3), (1161, .iconst 4), (1162, .iadd), (1163, .iaload), (1164, .aload_n 0), (1165, .iload_n 3), (1166, .iconst 5), (1167, .iadd), (1168, .iaload), (1169, .invokevirtual 141), (1172, .aload_n 2), (1173, .aload_n 0), (1174, .iload_n 3), (1175, .iconst 1), (1176, .iadd), (1177, .iaload), (1178, .aload_n 0), (1179, .iload_n 3), (1180, .iconst 2), (1181, .iadd), (1182, .iaload), (1183, .aload_n 0), (1184, .iload_n 3), (1185, .iconst 3), (1186, .iadd), (1187, .iaload), (1188, .aload_n 0), (1189, .iload_n 3), (1190, .iconst 4), (1191, .iadd), (1192, .iaload), (1193, .aload_n 0), (1194, .iload_n 3), (1195, .iconst 5), (1196, .iadd), (1197, .iaload), (1198, .invokevirtual 145), (1201, .if_icmp .eq 75), (1204, .iconst 0), (1205, .ireturn), (1206, .aload_n 1), (1207, .aload_n 0), (1208, .iload_n 3), (1209, .iconst 1), (1210, .iadd), (1211, .iaload), (1212, .aload_n 0), (1213, .iload_n 3), (1214, .iconst 2), (1215, .iadd), (1216, .iaload), (1217, .invokevirtual 146), (1220, .aload_n 2), (1221, .aload_n 0), (1222, .iload_n 3), (1223, .iconst 1), (1224, .iadd), (1225, .iaload), (1226, .aload_n 0), (1227, .iload_n 3), (1228, .iconst 2), (1229, .iadd), (1230, .iaload), (1231, .invokevirtual 149), (1234, .if_icmp .eq 42), (1237, .iconst 0), (1238, .ireturn), (1239, .aload_n 1), (1240, .aload_n 0), (1241, .iload_n 3), (1242, .iconst 1), (1243, .iadd), (1244, .iaload), (1245, .invokevirtual 150), (1248, .aload_n 2), (1249, .aload_n 0), (1250, .iload_n 3), (1251, .iconst 1), (1252, .iadd), (1253, .iaload), (1254, .invokevirtual 153), (1257, .if_icmp .eq 19), (1260, .iconst 0), (1261, .ireturn), (1262, .aload_n 1), (1263, .invokevirtual 154), (1266, .aload_n 2), (1267, .invokevirtual 158), (1270, .lcmp), (1271, .ifCond .eq 5), (1274, .iconst 0), (1275, .ireturn), (1276, .iinc 3 6), (1279, .goto (-1261)), (1282, .iconst 1), (1283, .ireturn)]
def ab_ct0 : List (List (Nat × Instr)) := [ab_c0, ab_c1, ab_c2, ab_c3, ab_c4, ab_c4, ab_c4, ab_c4, ab_c4, ab_c4, ab_c4, ab_c4, ab_c12, ab_c13, ab_c14, ab_c15, ab_c16, ab_c17, ab_c18, ab_c19, ab_c20, ab_c21, ab_c22, ab_c23, ab_c24]
def ab_ct1 : List (List (Nat × Instr)) := [ab_c25, ab_c26, ab_c27, ab_c28, ab_c29, ab_c30, ab_c31, ab_c32, ab_c33, ab_c34, ab_c35, ab_c36, ab_c37, ab_c38, ab_c39, ab_c40, ab_c41, ab_c42, ab_c43, ab_c44, ab_c45, ab_c46, ab_c47, ab_c48, ab_c49]
def ab_ct2 : List (List (Nat × Instr)) := [ab_c50, ab_c51, ab_c52, ab_c53, ab_c54, ab_c55, ab_c56, ab_c57, ab_c58, ab_c59, ab_c60, ab_c61, ab_c62, ab_c63, ab_c64, ab_c65, ab_c66, ab_c67, ab_c68, ab_c69, ab_c70, ab_c71, ab_c72, ab_c73, ab_c74]
def ab_ct3 : List (List (Nat × Instr)) := [ab_c75, ab_c76, ab_c77, ab_c78, ab_c79, ab_c80, ab_c81, ab_c82, ab_c83, ab_c84, ab_c85, ab_c86, ab_c87, ab_c88, ab_c89, ab_c90, ab_c91, ab_c92, ab_c93, ab_c94, ab_c95, ab_c96, ab_c97, ab_c98, ab_c99]
def ab_ct4 : List (List (Nat × Instr)) := [ab_c100, ab_c101, ab_c102, ab_c103, ab_c104, ab_c105, ab_c106, ab_c107, ab_c108, ab_c109, ab_c110, ab_c111, ab_c112, ab_c113, ab_c114, ab_c115, ab_c116, ab_c117, ab_c118, ab_c119, ab_c120, ab_c121, ab_c122, ab_c123, ab_c124]
def ab_ct5 : List (List (Nat × Instr)) := [ab_c125, ab_c126, ab_c127, ab_c128, ab_c129, ab_c130, ab_c131, ab_c132, ab_c133, ab_c134, ab_c135, ab_c136, ab_c137, ab_c138, ab_c139, ab_c140, ab_c141, ab_c142, ab_c143, ab_c144, ab_c145, ab_c146, ab_c147, ab_c148, ab_c149]
def ab_ct6 : List (List (Nat × Instr)) := [ab_c150, ab_c151, ab_c152, ab_c153, ab_c154, ab_c155, ab_c156, ab_c157, ab_c158, ab_c159, ab_c160, ab_c161, ab_c162, ab_c163, ab_c164, ab_c165, ab_c166, ab_c167, ab_c168, ab_c169, ab_c170, ab_c171, ab_c172, ab_c173, ab_c174]
def ab_ct7 : List (List (Nat × Instr)) := [ab_c175, ab_c176, ab_c177, ab_c178, ab_c179, ab_c180, ab_c181, ab_c182, ab_c183, ab_c184, ab_c185, ab_c186, ab_c187, ab_c188, ab_c189, ab_c190, ab_c191, ab_c192, ab_c193, ab_c194, ab_c195, ab_c196, ab_c197, ab_c198, ab_c199]
def ab_ct8 : List (List (Nat × Instr)) := [ab_c200, ab_c201, ab_c202]
def ab_ct : List (List (Nat × Instr)) := ab_ct0 ++ ab_ct1 ++ ab_ct2 ++ ab_ct3 ++ ab_ct4 ++ ab_ct5 ++ ab_ct6 ++ ab_ct7 ++ ab_ct8
/-- links of each class' pool: (entry, class, slot, place in lw_tbl) -/
def ab_fl : List (List (Nat × Nat × Nat × Nat)) := [[(34, 1, 0, 117), (9, 0, 0, 239), (15, 0, 1, 240), (18, 0, 2, 241), (21, 0, 3, 242), (24, 0, 4, 243), (27, 0, 5, 244), (31, 0, 6, 246)], [(9, 1, 0, 116), (15, 1, 1, 120), (18, 1, 2, 123), (22, 1, 3, 124), (25, 1, 4, 126), (28, 1, 5, 130), (31, 1, 6, 134), (34, 1, 7, 135), (37, 1, 8, 136), (40, 1, 9, 137), (43, 1, 10, 139), (46, 1, 11, 141), (50, 1, 12, 143), (54, 1, 13, 144), (57, 1, 14, 147), (60, 1, 15, 149), (63, 1, 16, 151)], [(11, 2, 0, 268), (15, 2, 1, 269), (18, 2, 2, 270), (21, 2, 3, 271), (25, 2, 4, 273), (28, 2, 5, 274), (31, 2, 6, 275)], [(11, 3, 0, 298), (15, 3, 1, 299), (18, 3, 2, 301)], [(47, 1, 0, 118), (53, 1, 1, 121), (50, 1, 4, 128), (43, 1, 5, 132), (56, 1, 13, 145), (9, 4, 0, 194), (15, 4, 1, 196), (19, 4, 2, 198), (23, 4, 3, 200)], [(11, 5, 0, 87), (15, 5, 1, 88), (18, 5, 2, 89), (21, 5, 3, 90), (25, 5, 4, 92), (28, 5, 5, 94)], [(25, 1, 4, 127), (34, 1, 5, 131), (9, 6, 0, 217), (15, 6, 1, 218), (18, 6, 2, 220), (22, 6, 3, 222)], [(94, 5, 3, 91), (316, 5, 4, 93), (118, 5, 5, 95), (124, 1, 0, 119), (152, 1, 1, 122), (165, 1, 3, 125), (130, 1, 4, 129), (127, 1, 5, 133), (140, 1, 9, 138), (155, 1, 10, 140), (144, 1, 11, 142), (224, 1, 13, 146), (218, 1, 14, 148), (221, 1, 15, 150), (353, 4, 0, 195), (231, 4, 1, 197), (234, 4, 2, 199), (237, 4, 3, 201), (249, 6, 1, 219), (248, 6, 2, 221), (245, 6, 3, 223), (262, 0, 5, 245), (179, 2, 3, 272), (186, 2, 6, 276), (300, 3, 1, 300), (107, 3, 2, 302), (10, 7, 0, 310), (19, 7, 1, 311), (23, 7, 2, 312), (29, 7, 3, 313), (36, 7, 4, 314), (43, 7, 5, 315), (50, 7, 6, 316), (57, 7, 7, 317), (61, 7, 8, 318), (65, 7, 9, 319), (68, 7, 10, 320), (72, 7, 11, 321)], [(105, 8, 0, 832), (7, 8, 1, 833), (13, 8, 2, 834), (16, 8, 3, 835), (19, 8, 4, 836), (22, 8, 5, 837), (26, 8, 6, 838), (29, 8, 7, 839), (32, 8, 8, 840), (35, 8, 9, 841), (38, 8, 10, 842), (41, 8, 11, 843), (45, 8, 12, 844), (48, 8, 13, 845), (149, 8, 14, 846), (51, 8, 15, 847), (54, 8, 16, 848), (159, 8, 17, 849), (189, 8, 18, 850), (57, 8, 19, 851), (192, 8, 20, 852), (201, 8, 21, 853), (198, 8, 22, 854), (60, 8, 23, 855), (63, 8, 24, 856), (223, 8, 25, 857), (226, 8, 26, 858), (236, 8, 27, 859), (239, 8, 28, 860), (233, 8, 29, 861), (242, 8, 30, 862), (254, 8, 31, 863), (66, 8, 32, 864), (69, 8, 33, 865), (72, 8, 34, 866), (75, 8, 35, 867), (79, 8, 36, 868), (82, 8, 37, 869), (85, 8, 38, 870), (88, 8, 39, 871), (271, 8, 40, 872)], [], [], []]
/-- (entry, method, 1 for a nest mate's, place); 1000 is Object.<init>, 1001 System.arraycopy -/
def ab_ml : List (List (Nat × Nat × Nat × Nat)) := [[(3, 1000, 0, 238), (39, 13, 0, 702), (43, 2, 0, 709), (49, 4, 0, 711), (53, 12, 0, 715)], [(3, 1000, 0, 115), (72, 18, 0, 410), (87, 202, 0, 414), (75, 19, 0, 420), (78, 20, 0, 424), (93, 124, 1, 428), (81, 21, 0, 431), (96, 22, 0, 435), (100, 24, 0, 439), (104, 23, 0, 444), (84, 25, 0, 448), (108, 26, 0, 452), (111, 28, 0, 460), (114, 29, 0, 464), (124, 30, 0, 519), (127, 1002, 0, 520), (131, 32, 0, 622), (134, 33, 0, 623), (69, 17, 0, 639), (137, 35, 0, 808)], [(3, 1000, 0, 267), (34, 42, 0, 543), (38, 45, 0, 544), (41, 46, 0, 548), (44, 50, 0, 552), (48, 48, 0, 556), (52, 47, 0, 560), (56, 49, 0, 564)], [(3, 1000, 0, 297), (21, 53, 0, 756), (25, 57, 0, 757), (29, 60, 0, 765), (33, 1001, 0, 782)], [(3, 1000, 0, 193), (26, 64, 0, 632), (30, 16, 0, 635), (36, 34, 0, 640), (39, 65, 0, 641), (59, 15, 0, 645)], [(3, 1000, 0, 86), (31, 68, 0, 369)], [(3, 1000, 0, 216), (30, 73, 0, 666), (37, 74, 0, 670)], [(1, 1000, 0, 78), (9, 66, 1, 83), (18, 14, 1, 112), (28, 62, 1, 190), (35, 71, 1, 213), (42, 0, 1, 235), (49, 41, 1, 264), (56, 52, 1, 294), (76, 116, 0, 351), (80, 117, 0, 354), (83, 67, 0, 357), (86, 68, 0, 361), (90, 69, 0, 365), (97, 118, 0, 374), (100, 53, 0, 377), (103, 111, 0, 381), (110, 58, 0, 385), (114, 76, 0, 389), (121, 110, 0, 398), (356, 70, 0, 402), (359, 17, 0, 406), (280, 27, 0, 456), (133, 120, 0, 479), (136, 121, 0, 482), (148, 122, 0, 486), (271, 1002, 0, 489), (369, 123, 0, 492), (158, 15, 0, 499), (162, 30, 0, 507), (168, 31, 0, 515), (171, 113, 0, 525), (195, 29, 0, 529), (198, 202, 0, 530), (175, 42, 0, 535), (176, 43, 0, 539), (182, 44, 0, 572), (189, 112, 0, 584), (203, 51, 0, 588), (192, 89, 0, 597), (207, 32, 0, 606), (211, 33, 0, 610), (215, 34, 0, 618), (227, 63, 0, 628), (239, 35, 0, 650), (242, 72, 0, 662), (252, 38, 0, 678), (255, 114, 0, 682), (362, 115, 0, 686), (258, 1, 0, 694), (263, 2, 0, 698), (266, 3, 0, 705), (277, 16, 0, 728), (283, 119, 0, 733), (286, 54, 0, 736), (289, 55, 0, 744), (292, 56, 0, 752), (296, 59, 0, 761), (303, 57, 0, 777), (306, 61, 0, 778), (310, 1003, 0, 789), (313, 39, 0, 796), (319, 37, 0, 800), (322, 36, 0, 804), (325, 40, 0, 809), (332, 108, 0, 819), (335, 79, 0, 820), (338, 82, 0, 821), (341, 81, 0, 822), (344, 93, 0, 823), (347, 88, 0, 824), (350, 100, 0, 825)], [(1, 1000, 0, 831), (119, 134, 0, 961), (108, 131, 0, 965), (101, 126, 0, 968), (112, 132, 0, 971), (115, 133, 0, 974), (123, 189, 0, 982), (126, 188, 0, 985), (133, 138, 0, 997), (130, 139, 0, 1001), (136, 140, 0, 1005), (162, 127, 0, 1017), (173, 149, 0, 1021), (166, 146, 0, 1025), (140, 143, 0, 1030), (153, 147, 0, 1034), (156, 145, 0, 1038), (145, 144, 0, 1042), (169, 130, 0, 1046), (97, 129, 0, 1049), (93, 128, 0, 1052), (177, 151, 0, 1059), (180, 148, 0, 1067), (183, 154, 0, 1075), (186, 155, 0, 1079), (211, 163, 0, 1099), (208, 162, 0, 1103), (195, 160, 0, 1107), (204, 161, 0, 1111), (216, 165, 0, 1119), (220, 166, 0, 1128), (229, 170, 0, 1140), (248, 173, 0, 1148), (245, 172, 0, 1152), (251, 176, 0, 1164), (260, 182, 0, 1184), (257, 181, 0, 1188), (263, 183, 0, 1191), (268, 185, 0, 1200), (274, 192, 0, 1220), (278, 193, 0, 1224), (283, 198, 0, 1245), (286, 199, 0, 1249), (293, 200, 0, 1259)], [], [], [(9, 75, 0, 75), (13, 76, 0, 347), (18, 77, 0, 370), (23, 78, 0, 390), (28, 79, 0, 394), (32, 80, 0, 471), (36, 81, 0, 475), (41, 82, 0, 495), (45, 83, 0, 503), (50, 84, 0, 511), (54, 85, 0, 521), (58, 86, 0, 531), (62, 87, 0, 568), (67, 88, 0, 576), (71, 89, 0, 580), (75, 90, 0, 593), (79, 91, 0, 598), (83, 92, 0, 602), (87, 93, 0, 614), (92, 94, 0, 624), (96, 95, 0, 646), (100, 96, 0, 654), (104, 97, 0, 658), (108, 98, 0, 674), (112, 99, 0, 690), (117, 100, 0, 719), (121, 101, 0, 724), (125, 102, 0, 729), (129, 103, 0, 740), (133, 104, 0, 748), (137, 105, 0, 768), (141, 106, 0, 773), (146, 107, 0, 785), (150, 108, 0, 792), (154, 109, 0, 813), (12, 125, 0, 828), (17, 135, 0, 957), (22, 136, 0, 978), (27, 137, 0, 989), (31, 141, 0, 993), (35, 142, 0, 1009), (40, 150, 0, 1013), (44, 152, 0, 1055), (49, 153, 0, 1063), (53, 156, 0, 1071), (57, 157, 0, 1083), (61, 158, 0, 1087), (66, 159, 0, 1091), (70, 164, 0, 1095), (74, 167, 0, 1115), (78, 168, 0, 1124), (82, 169, 0, 1132), (86, 171, 0, 1136), (91, 174, 0, 1144), (95, 175, 0, 1156), (99, 177, 0, 1160), (103, 178, 0, 1168), (107, 179, 0, 1172), (111, 180, 0, 1176), (116, 184, 0, 1180), (120, 186, 0, 1196), (124, 187, 0, 1204), (128, 190, 0, 1208), (132, 191, 0, 1212), (136, 194, 0, 1216), (140, 195, 0, 1228), (145, 196, 0, 1233), (149, 197, 0, 1237), (153, 200, 0, 1241), (158, 201, 0, 1253)]]
def ab_nl : List (List (Nat × Nat × Nat)) := [[], [], [], [], [], [], [], [(7, 5, 81), (16, 1, 110), (26, 4, 188), (33, 6, 211), (40, 0, 233), (47, 2, 262), (54, 3, 292)], [], [], [], [(7, 7, 73), (10, 8, 826)]]
def ab_ki : List (List (Nat × Int32 × Nat)) := [[], [], [], [], [], [], [], [(299, -2147483648, 772)], [(282, -2147483648, 1232)], [(265, 1431655765, 417), (266, 858993459, 418), (267, 252645135, 419)], [], []]
def ab_kl : List (List (Nat × Int64 × Nat)) := [[(47, 1000000, 710)], [(67, 12, 443)], [(59, 10, 592)], [], [], [], [], [(367, -9223372036854775808, 485), (269, -1, 723), (328, 17, 817), (330, 31, 818)], [(91, -9223372036854775808, 1020), (143, 12, 1029), (214, 10, 1123), (266, 1000000, 1195), (289, 17, 1257), (291, 31, 1258)], [], [], []]
/-- places of each method's words: its code, its class initialized, static or instance method, selects -/
def ab_pl : List (Nat × Nat × Nat × Nat) := [(237, 66, 236, 9999), (697, 66, 695, 696), (701, 66, 699, 700), (708, 66, 706, 707), (714, 66, 713, 25), (714, 66, 713, 25), (714, 66, 713, 25), (714, 66, 713, 25), (714, 66, 713, 25), (714, 66, 713, 25), (714, 66, 713, 25), (714, 66, 713, 25), (718, 66, 717, 26), (704, 66, 703, 0), (114, 63, 113, 9999), (502, 63, 500, 501), (638, 63, 636, 637), (409, 63, 407, 408), (413, 63, 412, 2), (423, 63, 422, 3), (427, 63, 426, 4), (434, 63, 433, 5), (438, 63, 437, 6), (447, 63, 446, 8), (442, 63, 441, 7), (451, 63, 450, 9), (455, 63, 454, 10), (459, 63, 457, 458), (463, 63, 462, 11), (467, 63, 465, 466), (510, 63, 508, 509), (518, 63, 516, 517), (609, 63, 607, 608), (613, 63, 611, 612), (621, 63, 619, 620), (653, 63, 651, 652), (807, 63, 805, 806), (803, 63, 801, 802), (681, 63, 679, 680), (799, 63, 797, 798), (812, 63, 810, 811), (266, 67, 265, 9999), (538, 67, 536, 537), (542, 67, 540, 541), (575, 67, 573, 574), (547, 67, 546, 13), (551, 67, 550, 14), (563, 67, 562, 17), (559, 67, 558, 16), (567, 67, 566, 18), (555, 67, 554, 15), (591, 67, 589, 590), (296, 68, 295, 9999), (380, 68, 378, 379), (739, 68, 737, 738), (747, 68, 745, 746), (755, 68, 753, 754), (760, 68, 758, 759), (388, 68, 386, 387), (764, 68, 762, 763), (767, 68, 766, 0), (781, 68, 779, 780), (192, 64, 191, 9999), (631, 64, 629, 630), (634, 64, 633, 0), (644, 64, 643, 20), (85, 62, 84, 9999), (360, 62, 358, 359), (364, 62, 362, 363), (368, 62, 366, 367), (405, 62, 403, 404), (215, 65, 214, 9999), (665, 65, 663, 664), (669, 65, 668, 21), (673, 65, 672, 22), (77, 61, 76, 9999), (350, 61, 348, 349), (373, 61, 371, 372), (393, 61, 391, 392), (397, 61, 395, 396), (474, 61, 472, 473), (478, 61, 476, 477), (498, 61, 496, 497), (506, 61, 504, 505), (514, 61, 512, 513), (524, 61, 522, 523), (534, 61, 532, 533), (571, 61, 569, 570), (579, 61, 577, 578), (583, 61, 581, 582), (596, 61, 594, 595), (601, 61, 599, 600), (605, 61, 603, 604), (617, 61, 615, 616), (627, 61, 625, 626), (649, 61, 647, 648), (657, 61, 655, 656), (661, 61, 659, 660), (677, 61, 675, 676), (693, 61, 691, 692), (722, 61, 720, 721), (727, 61, 725, 726), (732, 61, 730, 731), (743, 61, 741, 742), (751, 61, 749, 750), (771, 61, 769, 770), (776, 61, 774, 775), (788, 61, 786, 787), (795, 61, 793, 794), (816, 61, 814, 815), (401, 61, 400, 1), (384, 61, 383, 0), (587, 61, 586, 19), (528, 61, 527, 12), (685, 61, 684, 23), (689, 61, 688, 24), (353, 61, 352, 0), (356, 61, 355, 0), (376, 61, 375, 0), (735, 61, 734, 0), (481, 61, 480, 0), (484, 61, 483, 0), (488, 61, 487, 0), (494, 61, 493, 0), (430, 61, 429, 0), (830, 69, 829, 9999), (970, 69, 969, 0), (1019, 69, 1018, 0), (1054, 69, 1053, 0), (1051, 69, 1050, 0), (1048, 69, 1047, 0), (967, 69, 966, 0), (973, 69, 972, 0), (977, 69, 976, 28), (964, 69, 963, 27), (960, 69, 958, 959), (981, 69, 979, 980), (992, 69, 990, 991), (1000, 69, 999, 30), (1004, 69, 1003, 31), (1008, 69, 1007, 32), (996, 69, 994, 995), (1012, 69, 1010, 1011), (1033, 69, 1032, 35), (1045, 69, 1044, 38), (1041, 69, 1040, 37), (1028, 69, 1027, 34), (1037, 69, 1036, 36), (1070, 69, 1069, 40), (1024, 69, 1023, 33), (1016, 69, 1014, 1015), (1062, 69, 1061, 39), (1058, 69, 1056, 1057), (1066, 69, 1064, 1065), (1078, 69, 1077, 41), (1082, 69, 1081, 42), (1074, 69, 1072, 1073), (1086, 69, 1084, 1085), (1090, 69, 1088, 1089), (1094, 69, 1092, 1093), (1110, 69, 1109, 45), (1114, 69, 1113, 46), (1106, 69, 1105, 44), (1102, 69, 1101, 43), (1098, 69, 1096, 1097), (1122, 69, 1121, 47), (1131, 69, 1130, 48), (1118, 69, 1116, 1117), (1127, 69, 1125, 1126), (1135, 69, 1133, 1134), (1143, 69, 1142, 49), (1139, 69, 1137, 1138), (1155, 69, 1154, 51), (1151, 69, 1150, 50), (1147, 69, 1145, 1146), (1159, 69, 1157, 1158), (1167, 69, 1166, 52), (1163, 69, 1161, 1162), (1171, 69, 1169, 1170), (1175, 69, 1173, 1174), (1179, 69, 1177, 1178), (1190, 69, 1189, 0), (1187, 69, 1186, 53), (1194, 69, 1193, 54), (1183, 69, 1181, 1182), (1203, 69, 1202, 55), (1199, 69, 1197, 1198), (1207, 69, 1205, 1206), (988, 69, 987, 29), (984, 69, 983, 0), (1211, 69, 1209, 1210), (1215, 69, 1213, 1214), (1223, 69, 1222, 56), (1227, 69, 1226, 57), (1219, 69, 1217, 1218), (1231, 69, 1229, 1230), (1236, 69, 1234, 1235), (1240, 69, 1238, 1239), (1248, 69, 1247, 58), (1252, 69, 1251, 59), (1244, 69, 1242, 1243), (1256, 69, 1254, 1255), (416, 70, 415, 0)]
/-- number of the class whose pool a method uses -/
def ab_ow : List Nat := [0, 0, 0, 0, 0, 0, 0, 0, 0, 0, 0, 0, 0, 0, 1, 1, 1, 1, 1, 1, 1, 1, 1, 1, 1, 1, 1, 1, 1, 1, 1, 1, 1, 1, 1, 1, 1, 1, 1, 1, 1, 2, 2, 2, 2, 2, 2, 2, 2, 2, 2, 2, 3, 3, 3, 3, 3, 3, 3, 3, 3, 3, 4, 4, 4, 4, 5, 5, 5, 5, 5, 6, 6, 6, 6, 7, 7, 7, 7, 7, 7, 7, 7, 7, 7, 7, 7, 7, 7, 7, 7, 7, 7, 7, 7, 7, 7, 7, 7, 7, 7, 7, 7, 7, 7, 7, 7, 7, 7, 7, 7, 7, 7, 7, 7, 7, 7, 7, 7, 7, 7, 7, 7, 7, 7, 8, 8, 8, 8, 8, 8, 8, 8, 8, 8, 8, 8, 8, 8, 8, 8, 8, 8, 8, 8, 8, 8, 8, 8, 8, 8, 8, 8, 8, 8, 8, 8, 8, 8, 8, 8, 8, 8, 8, 8, 8, 8, 8, 8, 8, 8, 8, 8, 8, 8, 8, 8, 8, 8, 8, 8, 8, 8, 8, 8, 8, 8, 8, 8, 8, 8, 8, 8, 8, 8, 8, 8, 8, 8, 8, 8, 8, 9]
def ab_cn : List String := [RX0, RX1, RX2, RX3, RX4, RX5, RX6, RX7, RX8, RJ6, RJ9, RL]
/-- the cells in the order in which they are made: (0, class), (1, length) ints, (2, length) longs, (3, length) booleans -/
def ab_lay : List (Nat × Nat) := [(0, 7), (0, 5), (1, 100), (1, 100), (1, 100), (0, 1), (1, 48), (1, 12), (2, 12), (1, 4), (1, 4), (1, 12), (2, 9), (2, 9), (2, 3), (2, 4), (2, 12), (0, 1), (1, 48), (1, 12), (2, 12), (1, 4), (1, 4), (1, 12), (2, 9), (2, 9), (2, 3), (2, 4), (2, 12), (0, 4), (0, 6), (1, 4), (1, 4), (0, 0), (1, 12), (1, 12), (1, 49), (1, 49), (1, 7), (0, 2), (1, 60), (1, 6), (1, 6), (0, 3), (1, 192), (1, 4), (1, 4), (1, 48), (1, 4), (0, 8), (1, 100), (1, 100), (1, 100), (1, 100), (1, 4), (1, 48), (1, 48), (1, 16), (1, 3), (2, 12), (2, 4), (2, 4), (2, 4), (2, 12), (1, 60), (1, 6), (1, 6), (1, 12), (1, 12), (1, 12), (3, 4), (1, 4), (1, 4), (1, 192), (1, 48)]
end
section
/-! what the tables say of a method -/
def ab_row (y : Nat) : ab_MR := ab_ms.getD y (⟨"", "", ""⟩, ⟨#[]⟩, 0, none, 0, false, 0, "")
def ab_own (y : Nat) : Nat := ab_ow.getD y 99
/-- the lengths of the instructions -/
def ab_sz (i : Instr) : Nat := match i with
  | .bipush _ | .iload _ | .istore _ | .lload _ | .lstore _ | .aload _ | .astore _ | .newarray _ => 2
  | .sipush _ | .iinc _ _ | .goto _ | .ifCond _ _ | .if_icmp _ _ | .ldc_w _ | .ldc2_w _ | .getfield _ | .putfield _ | .new _ | .invokevirtual _ | .invokestatic _ | .invokespecial _ => 3
  | _ => 1
end
section
/-! THE TABLES ARE RIGHT: decided by the kernel -/
def ab_wd : List Cond := lw_tbl.filter goodWord
theorem ab_wd_good {w : Cond} (h : w ∈ ab_wd) : (w.onTables && w.keeps) = true ∨ ∃ ty, w = .arrayClass ty := good_of_word (List.mem_filter.mp h).2
/-- the word w stands at the place p, and is one that lasts -/
def ab_at (p : Nat) (w : Cond) : Bool := decide (lw_tbl[p]? = some w) && goodWord w
theorem ab_at_in {p : Nat} {w : Cond} (h : ab_at p w = true) : w ∈ ab_wd := by
  simp only [ab_at, Bool.and_eq_true, decide_eq_true_eq] at h
  exact List.mem_filter.mpr ⟨List.mem_of_getElem? h.1, h.2⟩
def ab_ts (i : Instr) : Bool := match i with
  | .tableswitch _ _ _ _ => true
  | _ => false
def ab_dk (b : ByteArray) (q : Nat × Instr) : Bool := match decode b q.1 with
  | .ok (i, n) => decide (i = q.2) && (n == ab_sz i || ab_ts i)
  | _ => false
/-- a method's row: its words, its descriptor, its code -/
def ab_mk (y : Nat) : Bool :=
  let q := ab_row y
  let p := ab_pl.getD y (9999, 9999, 9999, 9999)
  plainName q.1.cls && decide (q.1.cls ≠ "java/lang/invoke/MethodHandle") && decide (q.1.cls ≠ "java/lang/invoke/VarHandle") && ab_at p.1 (.code q.1 q.2.1 q.2.2.1 q.2.2.2.1) && ab_at p.2.1 (.initialized q.1.cls) &&
  (if q.2.2.2.2.2.1 = true then ab_at p.2.2.1 (.static q.1) else (ab_at p.2.2.1 (.instanceMethod q.1) && (q.1.name == "<init>" || ab_at p.2.2.2 (.selects q.1.cls q.1 q.1)))) &&
  decide ((parseMethodDescriptor q.1.desc).map (fun d => d.parameters.length) = some q.2.2.2.2.1) && decide (ab_cn.getD (ab_own y) "" = q.1.cls) && decide (q.2.2.1 ≤ 20) && (match q.2.2.2.1 with
    | none => true
    | some .int => true
    | some .long => true
    | some .boolean => true
    | _ => false) && decide (0 < q.2.2.2.2.2.2.1) && decide (ab_own y < 11) && (q.1.name != "<init>" || decide (q.2.2.2.1 = none)) && (q.2.2.2.2.2.1 == true || decide (((vwCl[ab_own y]?).map (fun r => r.1)) = some q.1.cls))
def ab_dc (y : Nat) : Bool := (ab_ct.getD y []).all (ab_dk (ab_row y).2.1)
theorem ab_mk0 : (List.range 15).all (fun k => ab_mk (0 + k)) = true := by decide +kernel
theorem ab_mk15 : (List.range 15).all (fun k => ab_mk (15 + k)) = true := by decide +kernel
theorem ab_mk30 : (List.range 15).all (fun k => ab_mk (30 + k)) = true := by decide +kernel
theorem ab_mk45 : (List.range 15).all (fun k => ab_mk (45 + k)) = true := by decide +kernel
theorem ab_mk60 : (List.range 15).all (fun k => ab_mk (60 + k)) = true := by decide +kernel
theorem ab_mk75 : (List.range 15).all (fun k => ab_mk (75 + k)) = true := by decide +kernel
theorem ab_mk90 : (List.range 15).all (fun k => ab_mk (90 + k)) = true := by decide +kernel
theorem ab_mk105 : (List.range 15).all (fun k => ab_mk (105 + k)) = true := by decide +kernel
theorem ab_mk120 : (List.range 15).all (fun k => ab_mk (120 + k)) = true := by decide +kernel
theorem ab_mk135 : (List.range 15).all (fun k => ab_mk (135 + k)) = true := by decide +kernel
theorem ab_mk150 : (List.range 15).all (fun k => ab_mk (150 + k)) = true := by decide +kernel
theorem ab_mk165 : (List.range 15).all (fun k => ab_mk (165 + k)) = true := by decide +kernel
theorem ab_mk180 : (List.range 15).all (fun k => ab_mk (180 + k)) = true := by decide +kernel
theorem ab_mk195 : (List.range 8).all (fun k => ab_mk (195 + k)) = true := by decide +kernel
theorem ab_mks {y : Nat} (h : y < 203) : ab_mk y = true := by
  by_cases h0 : y < 15
  · have q := List.all_eq_true.mp ab_mk0 (y - 0) (List.mem_range.mpr (by omega))
    rwa [show 0 + (y - 0) = y by omega] at q
  by_cases h15 : y < 30
  · have q := List.all_eq_true.mp ab_mk15 (y - 15) (List.mem_range.mpr (by omega))
    rwa [show 15 + (y - 15) = y by omega] at q
  by_cases h30 : y < 45
  · have q := List.all_eq_true.mp ab_mk30 (y - 30) (List.mem_range.mpr (by omega))
    rwa [show 30 + (y - 30) = y by omega] at q
  by_cases h45 : y < 60
  · have q := List.all_eq_true.mp ab_mk45 (y - 45) (List.mem_range.mpr (by omega))
    rwa [show 45 + (y - 45) = y by omega] at q
  by_cases h60 : y < 75
  · have q := List.all_eq_true.mp ab_mk60 (y - 60) (List.mem_range.mpr (by omega))
    rwa [show 60 + (y - 60) = y by omega] at q
  by_cases h75 : y < 90
  · have q := List.all_eq_true.mp ab_mk75 (y - 75) (List.mem_range.mpr (by omega))
    rwa [show 75 + (y - 75) = y by omega] at q
  by_cases h90 : y < 105
  · have q := List.all_eq_true.mp ab_mk90 (y - 90) (List.mem_range.mpr (by omega))
    rwa [show 90 + (y - 90) = y by omega] at q
  by_cases h105 : y < 120
  · have q := List.all_eq_true.mp ab_mk105 (y - 105) (List.mem_range.mpr (by omega))
    rwa [show 105 + (y - 105) = y by omega] at q
  by_cases h120 : y < 135
  · have q := List.all_eq_true.mp ab_mk120 (y - 120) (List.mem_range.mpr (by omega))
    rwa [show 120 + (y - 120) = y by omega] at q
  by_cases h135 : y < 150
  · have q := List.all_eq_true.mp ab_mk135 (y - 135) (List.mem_range.mpr (by omega))
    rwa [show 135 + (y - 135) = y by omega] at q
  by_cases h150 : y < 165
  · have q := List.all_eq_true.mp ab_mk150 (y - 150) (List.mem_range.mpr (by omega))
    rwa [show 150 + (y - 150) = y by omega] at q
  by_cases h165 : y < 180
  · have q := List.all_eq_true.mp ab_mk165 (y - 165) (List.mem_range.mpr (by omega))
    rwa [show 165 + (y - 165) = y by omega] at q
  by_cases h180 : y < 195
  · have q := List.all_eq_true.mp ab_mk180 (y - 180) (List.mem_range.mpr (by omega))
    rwa [show 180 + (y - 180) = y by omega] at q
  by_cases h195 : y < 203
  · have q := List.all_eq_true.mp ab_mk195 (y - 195) (List.mem_range.mpr (by omega))
    rwa [show 195 + (y - 195) = y by omega] at q
  omega
/-- the links of a class' pool -/
def ab_lk (o : Nat) : Bool :=
  let n := ab_cn.getD o ""
  (ab_fl.getD o []).all (fun q => match vwCl[q.2.1]? with
    | some r => decide (q.2.2.1 < r.2.2) && ab_at q.2.2.2 (.fieldLink n q.1 r.1 (r.2.1 q.2.2.1).2.1 (r.2.1 q.2.2.1).2.2.1) && decide ((r.2.1 q.2.2.1).1 = r.1)
    | none => false) &&
  (ab_ml.getD o []).all (fun q => if q.2.1 = 1000 then ab_at q.2.2.2 (.methodLink n q.1 objectInit) else if q.2.1 = 1001 then ab_at q.2.2.2 (.methodLink n q.1 arraycopyName) else if q.2.1 = 1002 then ab_at q.2.2.2 (.methodLink n q.1 Lib.MathLoose.abs_long.x) else if q.2.1 = 1003 then ab_at q.2.2.2 (.methodLink n q.1 Lib.Math.min.name) else (decide (q.2.1 < 203) && (if q.2.2.1 = 0 then ab_at q.2.2.2 (.methodLink n q.1 (ab_row q.2.1).1) else decide (q.2.2.1 = 1 ∧ lw_tbl[q.2.2.2]? = some (.methodLinkNest n q.1 (ab_row q.2.1).1 "MarkedHands"))))) &&
  (ab_nl.getD o []).all (fun q => match vwCl[q.2.1]? with
    | some r => ab_at q.2.2 (.classLink n q.1 r.1)
    | none => false) &&
  (ab_ki.getD o []).all (fun q => ab_at q.2.2 (.constant n q.1 q.2.1)) && (ab_kl.getD o []).all (fun q => ab_at q.2.2 (.constantLong n q.1 q.2.1))
theorem ab_lks : (List.range 12).all ab_lk = true := by decide +kernel
/-- the copies of deals are deals -/
theorem ab_dl : ∀ k, k < 8 → (ab_row (4 + k)).1 = (ab_row 4).1 := by decide +kernel
def ab_in (w : Cond) : Bool := decide (w ∈ lw_tbl) && goodWord w
theorem ab_in_in {w : Cond} (h : ab_in w = true) : w ∈ ab_wd := by
  simp only [ab_in, Bool.and_eq_true, decide_eq_true_eq] at h
  exact List.mem_filter.mpr h
theorem ab_others : ([.instanceMethod objectInit, .code objectInit ⟨#[0xb1]⟩ 1 none, .native arraycopyName, .static arraycopyName, .initialized "java/lang/System", .static Lib.MathLoose.abs_long.x, .initialized "java/lang/Math", .code Lib.MathLoose.abs_long.x Lib.MathLoose.abs_long.code 2 (some .long), .static Lib.Math.min.name, .code Lib.Math.min.name Lib.Math.min.code 2 (some .int), .arrayClass .int, .arrayClass .long, .arrayClass .boolean] : List Cond).all ab_in = true := by decide +kernel
/-- a class: its fields' words, its making -/
def ab_ck (r : vw_C) : Bool := (u_ws r.1 r.2.1 r.2.2).all ab_in && ab_in (.instantiable r.1 r.2.2) && ab_in (.initialized r.1)
theorem ab_cks : vwCl.all ab_ck = true := by decide +kernel
end
section
theorem ab_dc0 : (List.range 15).all (fun k => ab_dc (0 + k)) = true := by decide +kernel
theorem ab_dc15 : (List.range 15).all (fun k => ab_dc (15 + k)) = true := by decide +kernel
theorem ab_dc30 : (List.range 15).all (fun k => ab_dc (30 + k)) = true := by decide +kernel
theorem ab_dc45 : (List.range 15).all (fun k => ab_dc (45 + k)) = true := by decide +kernel
theorem ab_dc60 : (List.range 15).all (fun k => ab_dc (60 + k)) = true := by decide +kernel
theorem ab_dc75 : (List.range 15).all (fun k => ab_dc (75 + k)) = true := by decide +kernel
theorem ab_dc90 : (List.range 15).all (fun k => ab_dc (90 + k)) = true := by decide +kernel
end
section
theorem ab_dc105 : (List.range 15).all (fun k => ab_dc (105 + k)) = true := by decide +kernel
theorem ab_dc120 : (List.range 15).all (fun k => ab_dc (120 + k)) = true := by decide +kernel
theorem ab_dc135 : (List.range 15).all (fun k => ab_dc (135 + k)) = true := by decide +kernel
theorem ab_dc150 : (List.range 15).all (fun k => ab_dc (150 + k)) = true := by decide +kernel
theorem ab_dc165 : (List.range 15).all (fun k => ab_dc (165 + k)) = true := by decide +kernel
theorem ab_dc180 : (List.range 15).all (fun k => ab_dc (180 + k)) = true := by decide +kernel
theorem ab_dc195 : (List.range 8).all (fun k => ab_dc (195 + k)) = true := by decide +kernel
theorem ab_dcs {y : Nat} (h : y < 203) : ab_dc y = true := by
  by_cases h0 : y < 15
  · have q := List.all_eq_true.mp ab_dc0 (y - 0) (List.mem_range.mpr (by omega))
    rwa [show 0 + (y - 0) = y by omega] at q
  by_cases h15 : y < 30
  · have q := List.all_eq_true.mp ab_dc15 (y - 15) (List.mem_range.mpr (by omega))
    rwa [show 15 + (y - 15) = y by omega] at q
  by_cases h30 : y < 45
  · have q := List.all_eq_true.mp ab_dc30 (y - 30) (List.mem_range.mpr (by omega))
    rwa [show 30 + (y - 30) = y by omega] at q
  by_cases h45 : y < 60
  · have q := List.all_eq_true.mp ab_dc45 (y - 45) (List.mem_range.mpr (by omega))
    rwa [show 45 + (y - 45) = y by omega] at q
  by_cases h60 : y < 75
  · have q := List.all_eq_true.mp ab_dc60 (y - 60) (List.mem_range.mpr (by omega))
    rwa [show 60 + (y - 60) = y by omega] at q
  by_cases h75 : y < 90
  · have q := List.all_eq_true.mp ab_dc75 (y - 75) (List.mem_range.mpr (by omega))
    rwa [show 75 + (y - 75) = y by omega] at q
  by_cases h90 : y < 105
  · have q := List.all_eq_true.mp ab_dc90 (y - 90) (List.mem_range.mpr (by omega))
    rwa [show 90 + (y - 90) = y by omega] at q
  by_cases h105 : y < 120
  · have q := List.all_eq_true.mp ab_dc105 (y - 105) (List.mem_range.mpr (by omega))
    rwa [show 105 + (y - 105) = y by omega] at q
  by_cases h120 : y < 135
  · have q := List.all_eq_true.mp ab_dc120 (y - 120) (List.mem_range.mpr (by omega))
    rwa [show 120 + (y - 120) = y by omega] at q
  by_cases h135 : y < 150
  · have q := List.all_eq_true.mp ab_dc135 (y - 135) (List.mem_range.mpr (by omega))
    rwa [show 135 + (y - 135) = y by omega] at q
  by_cases h150 : y < 165
  · have q := List.all_eq_true.mp ab_dc150 (y - 150) (List.mem_range.mpr (by omega))
    rwa [show 150 + (y - 150) = y by omega] at q
  by_cases h165 : y < 180
  · have q := List.all_eq_true.mp ab_dc165 (y - 165) (List.mem_range.mpr (by omega))
    rwa [show 165 + (y - 165) = y by omega] at q
  by_cases h180 : y < 195
  · have q := List.all_eq_true.mp ab_dc180 (y - 180) (List.mem_range.mpr (by omega))
    rwa [show 180 + (y - 180) = y by omega] at q
  by_cases h195 : y < 203
  · have q := List.all_eq_true.mp ab_dc195 (y - 195) (List.mem_range.mpr (by omega))
    rwa [show 195 + (y - 195) = y by omega] at q
  omega
end
section
theorem ab_ch {α : Type} {f : α → Bool} {l : List α} (n : Nat) (h1 : (l.take n).all f = true) (h2 : (l.drop n).all f = true) : l.all f = true := by
  rw [← List.take_append_drop n l, List.all_append, h1, h2]
  rfl
theorem ab_dL0 : ((ab_cL.drop 0).take 70).all (ab_dk code) = true := by decide +kernel
theorem ab_dL70 : ((ab_cL.drop 70).take 70).all (ab_dk code) = true := by decide +kernel
theorem ab_dL140 : ((ab_cL.drop 140).take 70).all (ab_dk code) = true := by decide +kernel
theorem ab_dL210 : ((ab_cL.drop 210).take 70).all (ab_dk code) = true := by decide +kernel
theorem ab_dL280 : ((ab_cL.drop 280).take 70).all (ab_dk code) = true := by decide +kernel
theorem ab_dL350 : ((ab_cL.drop 350).take 70).all (ab_dk code) = true := by decide +kernel
theorem ab_dL420 : ((ab_cL.drop 420).take 70).all (ab_dk code) = true := by decide +kernel
theorem ab_dL490 : ((ab_cL.drop 490).take 70).all (ab_dk code) = true := by decide +kernel
theorem ab_dL560 : ((ab_cL.drop 560).take 70).all (ab_dk code) = true := by decide +kernel
theorem ab_dL630 : ((ab_cL.drop 630).take 70).all (ab_dk code) = true := by decide +kernel
theorem ab_dL700 : ((ab_cL.drop 700).take 70).all (ab_dk code) = true := by decide +kernel
theorem ab_dL770 : ((ab_cL.drop 770).take 70).all (ab_dk code) = true := by decide +kernel
theorem ab_dL840 : ((ab_cL.drop 840).take 70).all (ab_dk code) = true := by decide +kernel
theorem ab_dL910 : ((ab_cL.drop 910).take 70).all (ab_dk code) = true := by decide +kernel
theorem ab_dL : ab_cL.all (ab_dk code) = true := by
  have e984 : (ab_cL.drop 980).all (ab_dk code) = true := by decide +kernel
  have e910 : (ab_cL.drop 910).all (ab_dk code) = true := ab_ch 70 ab_dL910 (by rw [List.drop_drop]; exact e984)
  have e840 : (ab_cL.drop 840).all (ab_dk code) = true := ab_ch 70 ab_dL840 (by rw [List.drop_drop]; exact e910)
  have e770 : (ab_cL.drop 770).all (ab_dk code) = true := ab_ch 70 ab_dL770 (by rw [List.drop_drop]; exact e840)
  have e700 : (ab_cL.drop 700).all (ab_dk code) = true := ab_ch 70 ab_dL700 (by rw [List.drop_drop]; exact e770)
  have e630 : (ab_cL.drop 630).all (ab_dk code) = true := ab_ch 70 ab_dL630 (by rw [List.drop_drop]; exact e700)
  have e560 : (ab_cL.drop 560).all (ab_dk code) = true := ab_ch 70 ab_dL560 (by rw [List.drop_drop]; exact e630)
  have e490 : (ab_cL.drop 490).all (ab_dk code) = true := ab_ch 70 ab_dL490 (by rw [List.drop_drop]; exact e560)
  have e420 : (ab_cL.drop 420).all (ab_dk code) = true := ab_ch 70 ab_dL420 (by rw [List.drop_drop]; exact e490)
  have e350 : (ab_cL.drop 350).all (ab_dk code) = true := ab_ch 70 ab_dL350 (by rw [List.drop_drop]; exact e420)
  have e280 : (ab_cL.drop 280).all (ab_dk code) = true := ab_ch 70 ab_dL280 (by rw [List.drop_drop]; exact e350)
  have e210 : (ab_cL.drop 210).all (ab_dk code) = true := ab_ch 70 ab_dL210 (by rw [List.drop_drop]; exact e280)
  have e140 : (ab_cL.drop 140).all (ab_dk code) = true := ab_ch 70 ab_dL140 (by rw [List.drop_drop]; exact e210)
  have e70 : (ab_cL.drop 70).all (ab_dk code) = true := ab_ch 70 ab_dL70 (by rw [List.drop_drop]; exact e140)
  have e0 : (ab_cL.drop 0).all (ab_dk code) = true := ab_ch 70 ab_dL0 (by rw [List.drop_drop]; exact e70)
  exact e0
end
section
/-! THE SMALL MACHINE: the same instructions over a plain state; references are places of cells in the order of their making -/
abbrev ab_L : Type := List (Option Value)
/-- ints of the cells (fields and elements), longs, references of the objects, how many cells there are -/
abbrev ab_S : Type := (Nat → Nat → Int32) × (Nat → Nat → Int64) × List (List (Option Nat)) × Nat
def ab_ins (y pc : Nat) : Option Instr := (ab_ct.getD y []).lookup pc
def ab_ly (k : Nat) : Nat × Nat := ab_lay.getD k (9, 0)
/-- kind of a field -/
def ab_fk (c j : Nat) : Nat := (ab_cls.getD c []).getD j 9
def ab_rf (R : List (List (Option Nat))) (k j : Nat) : Option Nat := (R.getD k []).getD j none
def ab_sr (R : List (List (Option Nat))) (k j : Nat) (v : Option Nat) : List (List (Option Nat)) := R.set k ((R.getD k []).set j v)
/-- locals -/
def ab_lg (ls : ab_L) (i : Nat) : Option Value := ls.getD i none
def ab_ca (o : Option Value) : Bool := match o with
  | some v => v.category == 2
  | none => false
/-- a value of one slot is stored: a long that began before it is gone -/
def ab_s1 : ab_L → Nat → Value → ab_L
  | [], _, _ => []
  | _ :: r, 0, v => some v :: r
  | [a], _ + 1, _ => [a]
  | a :: _ :: r, 1, v => (if ab_ca a then none else a) :: some v :: r
  | a :: b :: r, i + 2, v => a :: ab_s1 (b :: r) (i + 1) v
/-- a value of two slots -/
def ab_s2 : ab_L → Nat → Value → ab_L
  | [], _, _ => []
  | [a], _, _ => [a]
  | _ :: _ :: r, 0, v => some v :: none :: r
  | [a, b], _ + 1, _ => [a, b]
  | a :: _ :: _ :: r, 1, v => (if ab_ca a then none else a) :: some v :: none :: r
  | a :: b :: d :: r, i + 2, v => a :: ab_s2 (b :: d :: r) (i + 1) v
/-- what a method's locals are at its entry -/
def ab_ea : List Value → ab_L
  | [] => []
  | v :: r => if v.category = 2 then some v :: none :: ab_ea r else some v :: ab_ea r
def ab_en (n : Nat) (as : List Value) : ab_L := ab_ea as ++ List.replicate (n - (ab_ea as).length) none
/-- the stack's own instructions -/
def ab_op (i : Instr) (st : List Value) : Option (List Value) := match i, st with
  | .iconst n, st => some (.int (Int32.ofInt n) :: st)
  | .bipush n, st => some (.int (Int8.ofInt n).toInt32 :: st)
  | .sipush n, st => some (.int (Int16.ofInt n).toInt32 :: st)
  | .lconst n, st => some (.long (Int64.ofNat (n : Nat)) :: st)
  | .iadd, .int y :: .int x :: st => some (.int (x + y) :: st)
  | .isub, .int y :: .int x :: st => some (.int (x - y) :: st)
  | .imul, .int y :: .int x :: st => some (.int (x * y) :: st)
  | .iand, .int y :: .int x :: st => some (.int (x &&& y) :: st)
  | .ior, .int y :: .int x :: st => some (.int (x ||| y) :: st)
  | .ixor, .int y :: .int x :: st => some (.int (x ^^^ y) :: st)
  | .idiv, .int y :: .int x :: st => if y = 0 then none else some (.int (x / y) :: st)
  | .irem, .int y :: .int x :: st => if y = 0 then none else some (.int (x - x / y * y) :: st)
  | .ladd, .long y :: .long x :: st => some (.long (x + y) :: st)
  | .lsub, .long y :: .long x :: st => some (.long (x - y) :: st)
  | .lmul, .long y :: .long x :: st => some (.long (x * y) :: st)
  | .ldiv, .long y :: .long x :: st => if y = 0 then none else some (.long (x / y) :: st)
  | .lrem, .long y :: .long x :: st => if y = 0 then none else some (.long (x - x / y * y) :: st)
  | .lneg, .long x :: st => some (.long (-x) :: st)
  | .ishl, .int y :: .int x :: st => some (.int (x <<< (y &&& 31)) :: st)
  | .ishr, .int y :: .int x :: st => some (.int (x >>> (y &&& 31)) :: st)
  | .iushr, .int y :: .int x :: st => some (.int (x.toUInt32 >>> (y.toUInt32 &&& Int32.toUInt32 31)).toInt32 :: st)
  | .i2l, .int x :: st => some (.long x.toInt64 :: st)
  | .l2i, .long x :: st => some (.int x.toInt32 :: st)
  | .i2b, .int x :: st => some (.int x.toInt8.toInt32 :: st)
  | .i2s, .int x :: st => some (.int x.toInt16.toInt32 :: st)
  | .lcmp, .long y :: .long x :: st => some (.int (lg_cmp x y) :: st)
  | .dup, v :: st => if v.category = 1 then some (v :: v :: st) else none
  | .pop, v :: st => if v.category = 1 then some st else none
  | .dup2, v :: w :: st => if v.category = 1 ∧ w.category = 1 then some (v :: w :: v :: w :: st) else none
  | _, _ => none
/-- the locals' instructions: (locals, stack) -/
def ab_lo (i : Instr) (ls : ab_L) (st : List Value) : Option (ab_L × List Value) := match i, st with
  | .iload_n k, st => match ab_lg ls k with
    | some (.int x) => some (ls, .int x :: st)
    | _ => none
  | .iload k, st => match ab_lg ls k with
    | some (.int x) => some (ls, .int x :: st)
    | _ => none
  | .lload_n k, st => match ab_lg ls k with
    | some (.long x) => some (ls, .long x :: st)
    | _ => none
  | .lload k, st => match ab_lg ls k with
    | some (.long x) => some (ls, .long x :: st)
    | _ => none
  | .aload_n k, st => match ab_lg ls k with
    | some (.ref x) => some (ls, .ref x :: st)
    | _ => none
  | .aload k, st => match ab_lg ls k with
    | some (.ref x) => some (ls, .ref x :: st)
    | _ => none
  | .istore_n k, .int x :: st => if (k : Nat) < ls.length then some (ab_s1 ls k (.int x), st) else none
  | .istore k, .int x :: st => if k < ls.length then some (ab_s1 ls k (.int x), st) else none
  | .astore_n k, .ref x :: st => if (k : Nat) < ls.length then some (ab_s1 ls k (.ref x), st) else none
  | .lstore_n k, .long x :: st => if (k : Nat) + 1 < ls.length then some (ab_s2 ls k (.long x), st) else none
  | .lstore k, .long x :: st => if k + 1 < ls.length then some (ab_s2 ls k (.long x), st) else none
  | .iinc k n, st => match ab_lg ls k with
    | some (.int x) => if k < ls.length then some (ab_s1 ls k (.int (x + Int32.ofInt n)), st) else none
    | _ => none
  | _, _ => none
/-- jumps: (taken, offset, stack) -/
def ab_br (i : Instr) (st : List Value) : Option (Bool × Int × List Value) := match i, st with
  | .goto o, st => some (true, o, st)
  | .ifCond .eq o, .int x :: st => some (decide (x = 0), o, st)
  | .ifCond .ne o, .int x :: st => some (decide (¬ x = 0), o, st)
  | .ifCond .lt o, .int x :: st => some (decide (x < 0), o, st)
  | .ifCond .ge o, .int x :: st => some (decide (0 ≤ x), o, st)
  | .ifCond .gt o, .int x :: st => some (decide (0 < x), o, st)
  | .ifCond .le o, .int x :: st => some (decide (x ≤ 0), o, st)
  | .if_icmp .eq o, .int y :: .int x :: st => some (decide (x = y), o, st)
  | .if_icmp .ne o, .int y :: .int x :: st => some (decide (¬ x = y), o, st)
  | .if_icmp .lt o, .int y :: .int x :: st => some (decide (x < y), o, st)
  | .if_icmp .ge o, .int y :: .int x :: st => some (decide (y ≤ x), o, st)
  | .if_icmp .gt o, .int y :: .int x :: st => some (decide (y < x), o, st)
  | .if_icmp .le o, .int y :: .int x :: st => some (decide (x ≤ y), o, st)
  | .tableswitch d lo hi offs, .int x :: st => if x.toInt < lo ∨ hi < x.toInt then some (true, d, st) else (offs[(x.toInt - lo).toNat]?).map (fun o => (true, o, st))
  | _, _ => none
def ab_fd (o j : Nat) : Option (Nat × Nat × Nat) := (ab_fl.getD o []).lookup j
def ab_md (o j : Nat) : Option (Nat × Nat × Nat) := (ab_ml.getD o []).lookup j
def ab_nd (o j : Nat) : Option (Nat × Nat) := (ab_nl.getD o []).lookup j
def ab_kd (o j : Nat) : Option (Int32 × Nat) := (ab_ki.getD o []).lookup j
def ab_kD (o j : Nat) : Option (Int64 × Nat) := (ab_kl.getD o []).lookup j
/-- the cells' instructions: (stack, state); o is the class of the pool, b whether this is a constructor -/
def ab_he (o : Nat) (b : Bool) (i : Instr) (st : List Value) (s : ab_S) : Option (List Value × ab_S) := match i, st with
  | .ldc_w j, st => (ab_kd o j).map (fun v => (.int v.1 :: st, s))
  | .ldc2_w j, st => (ab_kD o j).map (fun v => (.long v.1 :: st, s))
  | .getfield j, .ref k :: st => match ab_fd o j with
    | some (c, f, _) => if ab_ly k = (0, c) ∧ k < s.2.2.2 then
        (if ab_fk c f = 2 then some (.long (s.2.1 k f) :: st, s) else if ab_fk c f = 3 then (match ab_rf s.2.2.1 k f with
          | some r => some (.ref r :: st, s)
          | none => none) else if ab_fk c f < 2 then some (.int (s.1 k f) :: st, s) else none) else none
    | none => none
  | .putfield j, .int x :: .ref k :: st => match ab_fd o j with
    | some (c, f, _) => if ab_ly k = (0, c) ∧ k < s.2.2.2 ∧ (ab_fk c f = 0 ∨ (ab_fk c f = 1 ∧ (x = 0 ∨ x = 1))) then some (st, (va_up s.1 k (va_up (s.1 k) f x), s.2)) else none
    | none => none
  | .putfield j, .long x :: .ref k :: st => match ab_fd o j with
    | some (c, f, _) => if ab_ly k = (0, c) ∧ k < s.2.2.2 ∧ ab_fk c f = 2 then some (st, (s.1, va_up s.2.1 k (va_up (s.2.1 k) f x), s.2.2)) else none
    | none => none
  | .putfield j, .ref x :: .ref k :: st => match ab_fd o j with
    | some (c, f, _) => if b = true ∧ ab_ly k = (0, c) ∧ k < s.2.2.2 ∧ ab_fk c f = 3 ∧ c = o ∧ ab_rf (ab_sr s.2.2.1 k f (some x)) k f = some x then some (st, (s.1, s.2.1, ab_sr s.2.2.1 k f (some x), s.2.2.2)) else none
    | none => none
  | .iaload, .int x :: .ref k :: st => if (ab_ly k).1 = 1 ∧ k < s.2.2.2 ∧ 0 ≤ x.toInt ∧ x.toInt < (ab_ly k).2 then some (.int (s.1 k x.toNatClampNeg) :: st, s) else none
  | .baload, .int x :: .ref k :: st => if (ab_ly k).1 = 3 ∧ k < s.2.2.2 ∧ 0 ≤ x.toInt ∧ x.toInt < (ab_ly k).2 then some (.int (s.1 k x.toNatClampNeg) :: st, s) else none
  | .laload, .int x :: .ref k :: st => if (ab_ly k).1 = 2 ∧ k < s.2.2.2 ∧ 0 ≤ x.toInt ∧ x.toInt < (ab_ly k).2 then some (.long (s.2.1 k x.toNatClampNeg) :: st, s) else none
  | .iastore, .int v :: .int x :: .ref k :: st => if (ab_ly k).1 = 1 ∧ k < s.2.2.2 ∧ 0 ≤ x.toInt ∧ x.toInt < (ab_ly k).2 then some (st, (va_up s.1 k (va_up (s.1 k) x.toNatClampNeg v), s.2)) else none
  | .bastore, .int v :: .int x :: .ref k :: st => if (v = 0 ∨ v = 1) ∧ (ab_ly k).1 = 3 ∧ k < s.2.2.2 ∧ 0 ≤ x.toInt ∧ x.toInt < (ab_ly k).2 then some (st, (va_up s.1 k (va_up (s.1 k) x.toNatClampNeg v), s.2)) else none
  | .lastore, .long v :: .int x :: .ref k :: st => if (ab_ly k).1 = 2 ∧ k < s.2.2.2 ∧ 0 ≤ x.toInt ∧ x.toInt < (ab_ly k).2 then some (st, (s.1, va_up s.2.1 k (va_up (s.2.1 k) x.toNatClampNeg v), s.2.2)) else none
  | .invokespecial j, .ref k :: st => match ab_md o j with
    | some (1000, _, _) => if (st.map (fun v => v.category)).sum ≤ 8 then some (st, s) else none
    | _ => none
  | .invokestatic j, .long x :: st => match ab_md o j with
    | some (1002, _, _) => if (st.map (fun v => v.category)).sum ≤ 8 then some (.long (if 0 < x then x else -x) :: st, s) else none
    | _ => none
  | .invokestatic j, .int y :: .int x :: st => match ab_md o j with
    | some (1003, _, _) => if (st.map (fun v => v.category)).sum ≤ 8 then some (.int (if y < x then y else x) :: st, s) else none
    | some (1001, _, _) => match st with
      | .ref k :: .int sp :: .ref h :: st => if ((st.map (fun v => v.category)).sum ≤ 8 ∧ (ab_ly k).1 = 1 ∧ (ab_ly h).1 = 1 ∧ k < s.2.2.2 ∧ h < s.2.2.2) ∧ (0 ≤ y.toInt ∧ 0 ≤ sp.toInt ∧ 0 ≤ x.toInt ∧ sp.toInt + y.toInt ≤ (ab_ly h).2 ∧ x.toInt + y.toInt ≤ (ab_ly k).2) then
          some (st, (va_up s.1 k (va_cpy (s.1 h) (s.1 k) sp.toNatClampNeg x.toNatClampNeg y.toNatClampNeg), s.2)) else none
      | _ => none
    | some _ => none
    | none => if o = 1 ∧ j = 118 ∧ (st.map (fun v => v.category)).sum ≤ 8 then some (.int (if x < y then y else x) :: st, s) else none
  | _, _ => none
/-- all references are to cells that are there -/
def ab_bv (n : Nat) (v : Value) : Bool := match v with
  | .ref k => decide (k < n ∨ 999 ≤ k)
  | _ => true
def ab_bo (n : Nat) (v : Option Value) : Bool := match v with
  | some v => ab_bv n v
  | none => true
def ab_bd (n : Nat) (ls : ab_L) (st : List Value) (R : List (List (Option Nat))) : Bool := ls.all (ab_bo n) && st.all (ab_bv n) && R.all (fun r => r.all (fun o => match o with
  | some k => decide (k < n)
  | none => true))
def ab_ak (t : ArrayType) : Nat := match t with
  | .int => 1
  | .long => 2
  | .boolean => 3
  | _ => 8
/-- a new cell -/
def ab_nw (o : Nat) (i : Instr) (ls : ab_L) (st : List Value) (s : ab_S) : Option (List Value × ab_S) := match i, st with
  | .newarray t, .int x :: st => if 0 ≤ x.toInt ∧ x.toInt ≤ 200 ∧ ab_ly s.2.2.2 = (ab_ak t, x.toNatClampNeg) ∧ ab_bd s.2.2.2 ls st s.2.2.1 = true then some (.ref s.2.2.2 :: st, (va_up s.1 s.2.2.2 (fun _ => 0), va_up s.2.1 s.2.2.2 (fun _ => 0), s.2.2.1, s.2.2.2 + 1)) else none
  | .new j, st => match ab_nd o j with
    | some (c, _) => if ab_ly s.2.2.2 = (0, c) ∧ s.2.2.2 < s.2.2.1.length ∧ ab_bd s.2.2.2 ls st s.2.2.1 = true then some (.ref s.2.2.2 :: st, (va_up s.1 s.2.2.2 (fun _ => 0), va_up s.2.1 s.2.2.2 (fun _ => 0), s.2.2.1.set s.2.2.2 (List.replicate 41 none), s.2.2.2 + 1)) else none
    | none => none
  | _, _ => none
/-- a return: what comes back -/
def ab_rt (r : Option FieldType) (i : Instr) (st : List Value) : Option (Option Value) := match i, st with
  | .ireturn, [.int x] => match r with
    | some .int => some (some (.int x))
    | some .boolean => if x = 0 ∨ x = 1 then some (some (.int x)) else none
    | _ => none
  | .lreturn, [.long x] => match r with
    | some .long => some (some (.long x))
    | _ => none
  | .return_, [] => match r with
    | none => some none
    | _ => none
  | _, _ => none
/-- the method that a call of y's comes to: deals, which calls itself, stands eight times -/
def ab_to (y t : Nat) : Option Nat := if t = 4 then (if 4 ≤ y ∧ y < 4 + 7 then some (y + 1) else if y = 4 + 7 then none else some t) else some t
/-- the receiver is a cell of class c -/
def ab_rc (c n : Nat) (as : List Value) : Bool := match as with
  | .ref k :: _ => ab_ly k == (0, c) && decide (k < n)
  | _ => false
/-- what a call of the kind kd (0 virtual, 1 static, 2 a constructor) by the link (t, nest) asks for -/
def ab_gd (kd y y' nest n : Nat) (as rest : List Value) : Bool :=
  let q := ab_row y'
  decide (as.length = q.2.2.2.2.1 + (if kd = 1 then 0 else 1)) && decide (q.2.2.2.2.2.2.1 < (ab_row y).2.2.2.2.2.2.1) && decide ((rest.map (fun v => v.category)).sum ≤ 8) && (q.2.2.2.2.2.1 == (kd == 1)) && ((q.1.name == "<init>") == (kd == 2)) && (kd == 1 || ab_rc (ab_own y') n as) && (kd != 0 || nest == 0) && decide ((ab_ea as).length ≤ q.2.2.1)
def ab_na (kd y' : Nat) : Nat := (ab_row y').2.2.2.2.1 + (if kd = 1 then 0 else 1)
def ab_go (y kd j n : Nat) (st : List Value) : Option (Nat × List Value × List Value) := match ab_md (ab_own y) j with
  | some (t, nest, _) => match ab_to y t with
    | some y' => if t < 1000 ∧ ab_gd kd y y' nest n (st.take (ab_na kd y')).reverse (st.drop (ab_na kd y')) = true then some (y', (st.take (ab_na kd y')).reverse, st.drop (ab_na kd y')) else none
    | none => none
  | none => none
/-- a call: (method, its arguments, what is left of the stack) -/
def ab_cl (y : Nat) (i : Instr) (n : Nat) (st : List Value) : Option (Nat × List Value × List Value) := match i with
  | .invokevirtual j => ab_go y 0 j n st
  | .invokestatic j => ab_go y 1 j n st
  | .invokespecial j => ab_go y 2 j n st
  | _ => none
/-- where a jump goes -/
def ab_tg (pc : Nat) (o : Int) : Nat := ((pc : Int) + o).toNat
/-- one instruction that neither calls nor returns: (pc, locals, stack, state) -/
def ab_ex (o : Nat) (b : Bool) (i : Instr) (pc : Nat) (ls : ab_L) (st : List Value) (s : ab_S) : Option (Nat × ab_L × List Value × ab_S) :=
  match ab_op i st with
  | some st' => some (pc + ab_sz i, ls, st', s)
  | none => match ab_lo i ls st with
    | some (ls', st') => some (pc + ab_sz i, ls', st', s)
    | none => match ab_br i st with
      | some (t, off, st') => if 0 ≤ (pc : Int) + off then some (if t = true then ab_tg pc off else pc + ab_sz i, ls, st', s) else none
      | none => match ab_he o b i st s with
        | some (st', s') => some (pc + ab_sz i, ls, st', s')
        | none => match ab_nw o i ls st s with
          | some (st', s') => some (pc + ab_sz i, ls, st', s')
          | none => none
/-- behind a call: a constructor's caller holds no cell that wasn't there, any other callee has made none -/
def ab_cb (y' : Nat) (ls : ab_L) (rest : List Value) (s r : ab_S) : Bool := if (ab_row y').1.name == "<init>" then ab_bd s.2.2.2 ls rest [] else decide (r.2.2 = s.2.2)
def ab_run : Nat → Nat → Nat → ab_L → List Value → ab_S → Option (Option Value × ab_S)
  | 0, _, _, _, _, _ => none
  | n + 1, y, pc, ls, st, s => match ab_ins y pc with
    | none => none
    | some i => match ab_rt (ab_row y).2.2.2.1 i st with
      | some v => some (v, s)
      | none => match ab_cl y i s.2.2.2 st with
        | some (y', as, rest) => (ab_run n y' 0 (ab_en (ab_row y').2.2.1 as) [] s).bind (fun r => if ab_cb y' ls rest s r.2 = true then ab_run n y (pc + 3) ls (r.1.toList ++ rest) r.2 else none)
        | none => (ab_ex (ab_own y) ((ab_row y).1.name == "<init>") i pc ls st s).bind (fun q => ab_run n y q.1 q.2.1 q.2.2.1 q.2.2.2)
end
section
/-! SOUND, first: the instructions of the stack, the locals, the jumps -/
def ab_v (ad : Nat → Nat) (v : Value) : Value := match v with
  | .ref k => .ref (ad k)
  | v => v
theorem ab_v_cat (ad : Nat → Nat) (v : Value) : (ab_v ad v).category = v.category := by cases v <;> rfl
theorem ab_v_cats (ad : Nat → Nat) (st : List Value) : ((st.map (ab_v ad)).map (fun v => v.category)) = st.map (fun v => v.category) := by
  rw [List.map_map]
  exact List.map_congr_left (fun v _ => ab_v_cat ad v)
section ABA
variable {p : Program} {l : Launch} {e : Env} {R : Room} {s : State} {m : MethodId} {args : Array Value} {below : List Frame} {meth : Method} {c : Code} {H : Heap} {locs : List Loc} {cells slots : Nat} {Q : State → Prop}
variable {cc : ByteArray} {pc : Nat} {lc : Array Slot} {ad : Nat → Nat}
set_option maxHeartbeats 4000000 in
theorem ab_op_W {i : Instr} {st st' : List Value} (hx : p.tables.exec = Jvm.exec) (hb : c.code = cc) (h : ab_op i st = some st') (hd : decode cc pc = .ok (i, ab_sz i))
    (k : W p l e R s m args below meth c H locs cells slots Q (F0 m (pc + ab_sz i) lc (st'.map (ab_v ad)))) : W p l e R s m args below meth c H locs cells slots Q (F0 m pc lc (st.map (ab_v ad))) := by
  unfold ab_op at h
  split at h
  · cases h; exact lv_iconst hx hb hd rfl k
  · cases h; exact lv_bipush hx hb hd rfl k
  · cases h; exact lv_sipush hx hb hd rfl k
  · cases h; exact lv_lconst hx hb hd rfl k
  · cases h; exact lv_iadd hx hb hd k
  · cases h; exact lv_isub hx hb hd k
  · cases h; exact lv_imul hx hb hd k
  · cases h; exact lv_iand hx hb hd k
  · cases h; exact lv_ior hx hb hd k
  · cases h; exact lv_ixor hx hb hd k
  · split at h
    · cases h
    · rename_i hne; cases h; exact lv_idiv hx hb hd hne k
  · split at h
    · cases h
    · rename_i hne; cases h; exact lv_irem hx hb hd hne k
  · cases h; exact lv_ladd hx hb hd k
  · cases h; exact lv_lsub hx hb hd k
  · cases h; exact lv_lmul hx hb hd k
  · split at h
    · cases h
    · rename_i hne; cases h; exact lv_ldiv hx hb hd hne k
  · split at h
    · cases h
    · rename_i hne; cases h; exact lv_lrem hx hb hd hne k
  · cases h; exact lv_lneg hx hb hd k
  · cases h; exact lv_ishl hx hb hd k
  · cases h; exact lv_ishr hx hb hd k
  · cases h; exact lv_iushr hx hb hd rfl k
  · cases h; exact lv_i2l hx hb hd rfl k
  · cases h; exact lv_l2i hx hb hd rfl k
  · cases h; exact lv_i2b hx hb hd rfl k
  · cases h; exact lv_i2s hx hb hd rfl k
  · cases h; exact W.lcmp hx hb hd k
  · split at h
    · rename_i hc; cases h; exact lv_dup hx hb hd (by rw [ab_v_cat]; exact hc) k
    · cases h
  · split at h
    · rename_i hc; cases h; exact lv_pop (va := ab_v ad _) hx hb hd (by rw [ab_v_cat]; exact hc) k
    · cases h
  · split at h
    · rename_i hc; cases h; exact lv_dup2_11 hx hb hd (by rw [ab_v_cat]; exact hc.1) (by rw [ab_v_cat]; exact hc.2) k
    · cases h
  · cases h
end ABA
/-- the small machine's locals are held by the machine's -/
def ab_has (lc : Array Slot) (nL : Nat) (ad : Nat → Nat) (ls : ab_L) : Prop := lc.size = nL ∧ lv_wf lc ∧ ls.length = nL ∧ ∀ (i : Nat) (v : Value), ls.getD i none = some v → lc[i]? = some (.val (ab_v ad v))
def ab_lv (ad : Nat → Nat) (nL : Nat) (ls : ab_L) : List (Nat × Value) := (List.range nL).filterMap (fun i => (ls.getD i none).map (fun v => (i, ab_v ad v)))
theorem ab_lt {ls : ab_L} {i : Nat} {v : Value} (h : ls.getD i none = some v) : i < ls.length := by
  rcases Nat.lt_or_ge i ls.length with q | q
  · exact q
  · rw [List.getD_eq_getElem?_getD, List.getElem?_eq_none q] at h
    cases h
theorem ab_lv_in {ad : Nat → Nat} {nL : Nat} {ls : ab_L} (hl : ls.length = nL) {i : Nat} {v : Value} (h : ls.getD i none = some v) : (i, ab_v ad v) ∈ ab_lv ad nL ls :=
  List.mem_filterMap.mpr ⟨i, List.mem_range.mpr (hl ▸ ab_lt h), by rw [h]; rfl⟩
theorem ab_has.lv {lc : Array Slot} {nL : Nat} {ad : Nat → Nat} {ls : ab_L} (h : ab_has lc nL ad ls) : lv_has lc nL (ab_lv ad nL ls) := by
  refine ⟨h.1, h.2.1, fun q hq => ?_⟩
  obtain ⟨i, -, hi⟩ := List.mem_filterMap.mp hq
  cases hg : ls.getD i none with
  | none => rw [hg] at hi; cases hi
  | some v =>
    rw [hg] at hi
    cases hi
    exact h.2.2.2 i v hg
theorem ab_s1_len : ∀ (ls : ab_L) (i : Nat) (v : Value), (ab_s1 ls i v).length = ls.length
  | [], _, _ => rfl
  | _ :: _, 0, _ => rfl
  | [_], _ + 1, _ => rfl
  | _ :: _ :: _, 1, _ => rfl
  | _ :: b :: r, i + 2, v => by
    show (ab_s1 (b :: r) (i + 1) v).length + 1 = _
    rw [ab_s1_len (b :: r) (i + 1) v]
    rfl
theorem ab_s1_get : ∀ (ls : ab_L) (i : Nat) (v : Value) (j : Nat) (w : Value), i < ls.length → (ab_s1 ls i v).getD j none = some w → (j = i ∧ w = v) ∨ (j ≠ i ∧ ¬ (j + 1 = i ∧ w.category = 2) ∧ ls.getD j none = some w)
  | [], _, _, _, _, hi, _ => absurd hi (Nat.not_lt_zero _)
  | a :: r, 0, v, 0, w, _, h => Or.inl ⟨rfl, (Option.some.inj h).symm⟩
  | a :: r, 0, v, j + 1, w, _, h => Or.inr ⟨by omega, by omega, h⟩
  | [_], i + 1, _, _, _, hi, _ => absurd hi (by simp)
  | a :: b :: r, 1, v, 0, w, _, h => by
    refine Or.inr ⟨by omega, fun hc => ?_, ?_⟩
    · have h2 : (if ab_ca a then none else a) = some w := h
      split at h2
      · cases h2
      · rename_i hn
        subst h2
        exact hn (by simp [ab_ca, hc.2])
    · have h2 : (if ab_ca a then none else a) = some w := h
      split at h2
      · cases h2
      · exact h2
  | a :: b :: r, 1, v, 1, w, _, h => Or.inl ⟨rfl, (Option.some.inj h).symm⟩
  | a :: b :: r, 1, v, j + 2, w, _, h => Or.inr ⟨by omega, by omega, h⟩
  | a :: b :: r, i + 2, v, 0, w, _, h => Or.inr ⟨by omega, by omega, h⟩
  | a :: b :: r, i + 2, v, j + 1, w, hi, h => by
    rcases ab_s1_get (b :: r) (i + 1) v j w (by simpa using hi) h with ⟨h1, h2⟩ | ⟨h1, h2, h3⟩
    · exact Or.inl ⟨by omega, h2⟩
    · exact Or.inr ⟨by omega, fun q => h2 ⟨by omega, q.2⟩, h3⟩
theorem ab_s2_len : ∀ (ls : ab_L) (i : Nat) (v : Value), (ab_s2 ls i v).length = ls.length
  | [], _, _ => by simp [ab_s2]
  | [_], i, _ => by cases i <;> simp [ab_s2]
  | _ :: _ :: _, 0, _ => rfl
  | [_, _], _ + 1, _ => rfl
  | _ :: _ :: _ :: _, 1, _ => rfl
  | _ :: b :: d :: r, i + 2, v => by
    show (ab_s2 (b :: d :: r) (i + 1) v).length + 1 = _
    rw [ab_s2_len (b :: d :: r) (i + 1) v]
    rfl
theorem ab_s2_get : ∀ (ls : ab_L) (i : Nat) (v : Value) (j : Nat) (w : Value), i + 1 < ls.length → (ab_s2 ls i v).getD j none = some w → (j = i ∧ w = v) ∨ (j ≠ i ∧ j ≠ i + 1 ∧ ¬ (j + 1 = i ∧ w.category = 2) ∧ ls.getD j none = some w)
  | [], _, _, _, _, hi, _ => absurd hi (Nat.not_lt_zero _)
  | [_], _, _, _, _, hi, _ => absurd hi (by simp)
  | a :: b :: r, 0, v, 0, w, _, h => Or.inl ⟨rfl, (Option.some.inj h).symm⟩
  | a :: b :: r, 0, v, 1, w, _, h => by cases h
  | a :: b :: r, 0, v, j + 2, w, _, h => Or.inr ⟨by omega, by omega, by omega, h⟩
  | [_, _], i + 1, _, _, _, hi, _ => absurd hi (by simp)
  | a :: b :: d :: r, 1, v, 0, w, _, h => by
    refine Or.inr ⟨by omega, by omega, fun hc => ?_, ?_⟩
    · have h2 : (if ab_ca a then none else a) = some w := h
      split at h2
      · cases h2
      · rename_i hn
        subst h2
        exact hn (by simp [ab_ca, hc.2])
    · have h2 : (if ab_ca a then none else a) = some w := h
      split at h2
      · cases h2
      · exact h2
  | a :: b :: d :: r, 1, v, 1, w, _, h => Or.inl ⟨rfl, (Option.some.inj h).symm⟩
  | a :: b :: d :: r, 1, v, 2, w, _, h => by cases h
  | a :: b :: d :: r, 1, v, j + 3, w, _, h => Or.inr ⟨by omega, by omega, by omega, h⟩
  | a :: b :: d :: r, i + 2, v, 0, w, _, h => Or.inr ⟨by omega, by omega, by omega, h⟩
  | a :: b :: d :: r, i + 2, v, j + 1, w, hi, h => by
    rcases ab_s2_get (b :: d :: r) (i + 1) v j w (by simpa using hi) h with ⟨h1, h2⟩ | ⟨h1, h2, h3, h4⟩
    · exact Or.inl ⟨by omega, h2⟩
    · exact Or.inr ⟨by omega, by omega, fun q => h3 ⟨by omega, q.2⟩, h4⟩
theorem ab_has.s1 {lc lc' : Array Slot} {nL i : Nat} {ad : Nat → Nat} {ls : ab_L} {v : Value} (h : ab_has lc nL ad ls) (hi : i < nL) (h' : lv_has lc' nL ((i, ab_v ad v) :: (ab_lv ad nL ls).filter (fun q => !(q.1 == i) && !(q.1 + 1 == i && q.2.category == 2)))) : ab_has lc' nL ad (ab_s1 ls i v) := by
  refine ⟨h'.1, h'.2.1, (ab_s1_len ls i v).trans h.2.2.1, fun j w hj => ?_⟩
  rcases ab_s1_get ls i v j w (by rw [h.2.2.1]; exact hi) hj with ⟨rfl, rfl⟩ | ⟨h1, h2, h3⟩
  · exact h'.2.2 (j, ab_v ad w) List.mem_cons_self
  · refine h'.2.2 (j, ab_v ad w) (List.mem_cons_of_mem _ (List.mem_filter.mpr ⟨ab_lv_in h.2.2.1 h3, ?_⟩))
    simp only [Bool.and_eq_true, Bool.not_eq_true', beq_eq_false_iff_ne, ne_eq, Bool.and_eq_false_iff, ab_v_cat]
    refine ⟨h1, ?_⟩
    by_cases q : j + 1 = i
    · exact Or.inr (fun z => h2 ⟨q, z⟩)
    · exact Or.inl q
theorem ab_has.s2 {lc lc' : Array Slot} {nL i : Nat} {ad : Nat → Nat} {ls : ab_L} {v : Value} (h : ab_has lc nL ad ls) (hi : i + 1 < nL) (h' : lv_has lc' nL ((i, ab_v ad v) :: (ab_lv ad nL ls).filter (fun q => !(q.1 == i) && (!(q.1 == i + 1) && !(q.1 + 1 == i && q.2.category == 2))))) : ab_has lc' nL ad (ab_s2 ls i v) := by
  refine ⟨h'.1, h'.2.1, (ab_s2_len ls i v).trans h.2.2.1, fun j w hj => ?_⟩
  rcases ab_s2_get ls i v j w (by rw [h.2.2.1]; exact hi) hj with ⟨rfl, rfl⟩ | ⟨h1, h2, h3, h4⟩
  · exact h'.2.2 (j, ab_v ad w) List.mem_cons_self
  · refine h'.2.2 (j, ab_v ad w) (List.mem_cons_of_mem _ (List.mem_filter.mpr ⟨ab_lv_in h.2.2.1 h4, ?_⟩))
    simp only [Bool.and_eq_true, Bool.not_eq_true', beq_eq_false_iff_ne, ne_eq, Bool.and_eq_false_iff, ab_v_cat]
    refine ⟨h1, h2, ?_⟩
    by_cases q : j + 1 = i
    · exact Or.inr (fun z => h3 ⟨q, z⟩)
    · exact Or.inl q
section ABB
variable {p : Program} {l : Launch} {e : Env} {R : Room} {s : State} {m : MethodId} {args : Array Value} {below : List Frame} {meth : Method} {c : Code} {H : Heap} {locs : List Loc} {cells slots : Nat} {Q : State → Prop}
variable {cc : ByteArray} {pc : Nat} {lc : Array Slot} {ad : Nat → Nat} {nL : Nat}
set_option maxHeartbeats 4000000 in
theorem ab_lo_W {i : Instr} {ls ls' : ab_L} {st st' : List Value} (hx : p.tables.exec = Jvm.exec) (hb : c.code = cc) (h : ab_lo i ls st = some (ls', st')) (hd : decode cc pc = .ok (i, ab_sz i)) (hl : ab_has lc nL ad ls)
    (k : ∀ lc', ab_has lc' nL ad ls' → W p l e R s m args below meth c H locs cells slots Q (F0 m (pc + ab_sz i) lc' (st'.map (ab_v ad)))) : W p l e R s m args below meth c H locs cells slots Q (F0 m pc lc (st.map (ab_v ad))) := by
  unfold ab_lo at h
  split at h
  · split at h
    · rename_i hg; cases h; exact lv_iload_n hx hb hd rfl (hl.2.2.2 _ _ hg) (k lc hl)
    · cases h
  · split at h
    · rename_i hg; cases h; exact lv_iload hx hb hd (hl.2.2.2 _ _ hg) (k lc hl)
    · cases h
  · split at h
    · rename_i hg; cases h; exact lv_lload_n hx hb hd rfl (hl.2.2.2 _ _ hg) (k lc hl)
    · cases h
  · split at h
    · rename_i hg; cases h; exact lv_lload hx hb hd (hl.2.2.2 _ _ hg) (k lc hl)
    · cases h
  · split at h
    · rename_i hg; cases h; exact lv_aload_n hx hb hd rfl (hl.2.2.2 _ _ hg) (k lc hl)
    · cases h
  · split at h
    · rename_i hg; cases h; exact lv_aload hx hb hd (hl.2.2.2 _ _ hg) (k lc hl)
    · cases h
  · split at h
    · rename_i hi; cases h; exact lv_istore_n hx hb hd rfl hl.lv (hl.2.2.1 ▸ hi) rfl (fun lc' h' => k lc' (hl.s1 (hl.2.2.1 ▸ hi) h'))
    · cases h
  · split at h
    · rename_i hi; cases h; exact lv_istore hx hb hd hl.lv (hl.2.2.1 ▸ hi) rfl (fun lc' h' => k lc' (hl.s1 (hl.2.2.1 ▸ hi) h'))
    · cases h
  · split at h
    · rename_i hi; cases h; exact lv_astore_n hx hb hd rfl hl.lv (hl.2.2.1 ▸ hi) rfl (fun lc' h' => k lc' (hl.s1 (hl.2.2.1 ▸ hi) h'))
    · cases h
  · split at h
    · rename_i hi; cases h; exact lv_lstore_n hx hb hd rfl hl.lv (hl.2.2.1 ▸ hi) rfl (fun lc' h' => k lc' (hl.s2 (hl.2.2.1 ▸ hi) h'))
    · cases h
  · split at h
    · rename_i hi; cases h; exact lv_lstore hx hb hd hl.lv (hl.2.2.1 ▸ hi) rfl (fun lc' h' => k lc' (hl.s2 (hl.2.2.1 ▸ hi) h'))
    · cases h
  · split at h
    · rename_i hg
      split at h
      · rename_i hi
        cases h
        obtain ⟨kk, hkk⟩ := List.getElem?_of_mem (ab_lv_in (ad := ad) hl.2.2.1 hg)
        exact lv_iinc hx hb hd hl.lv hkk rfl (hl.2.2.1 ▸ hi) rfl (fun lc' h' => k lc' (hl.s1 (hl.2.2.1 ▸ hi) h'))
      · cases h
    · cases h
  · cases h
theorem ab_tg_ok {pc : Nat} {o : Int} (h : 0 ≤ (pc : Int) + o) : (pc : Int) + o = (ab_tg pc o : Int) := by
  unfold ab_tg
  omega
set_option maxHeartbeats 4000000 in
theorem ab_br_W {i : Instr} {n : Nat} {t : Bool} {off : Int} {st st' : List Value} (hx : p.tables.exec = Jvm.exec) (hb : c.code = cc) (h : ab_br i st = some (t, off, st')) (h0 : 0 ≤ (pc : Int) + off) (hd : decode cc pc = .ok (i, n)) (hn : n = ab_sz i ∨ ab_ts i = true)
    (k : W p l e R s m args below meth c H locs cells slots Q (F0 m (if t = true then ab_tg pc off else pc + ab_sz i) lc (st'.map (ab_v ad)))) : W p l e R s m args below meth c H locs cells slots Q (F0 m pc lc (st.map (ab_v ad))) := by
  have hd' : ab_ts i = false → decode cc pc = .ok (i, ab_sz i) := by
    intro q
    rcases hn with r | r
    · rw [← r]; exact hd
    · rw [q] at r; cases r
  unfold ab_br at h
  split at h
  case h_14 =>
    split at h
    · rename_i ho
      cases h
      exact lv_tableOut hx hb hd ho (ab_tg_ok h0) k
    · rename_i ho
      rw [Option.map_eq_some_iff] at h
      obtain ⟨o, h1, h2⟩ := h
      cases h2
      exact lv_tableIn hx hb hd (fun q => ho (Or.inl q)) (fun q => ho (Or.inr q)) h1 (ab_tg_ok h0) k
  · cases h; exact lv_goto hx hb (hd' rfl) (ab_tg_ok h0) k
  · cases h; exact lv_if_eq hx hb (hd' rfl) (ab_tg_ok h0) (fun q => by rw [if_pos (by simpa using q)] at k; exact k) (fun q => by rw [if_neg (by simpa using q)] at k; exact k)
  · cases h; exact lv_if_ne hx hb (hd' rfl) (ab_tg_ok h0) (fun q => by rw [if_pos (by simpa using q)] at k; exact k) (fun q => by rw [if_neg (by simpa using q)] at k; exact k)
  · cases h; exact lv_if_lt hx hb (hd' rfl) (ab_tg_ok h0) (fun q => by rw [if_pos (decide_eq_true q)] at k; exact k) (fun q => by rw [if_neg (by simpa only [decide_eq_true_eq] using q)] at k; exact k)
  · cases h; exact lv_if_ge hx hb (hd' rfl) (ab_tg_ok h0) (fun q => by rw [if_pos (decide_eq_true q)] at k; exact k) (fun q => by rw [if_neg (by simpa only [decide_eq_true_eq] using q)] at k; exact k)
  · cases h; exact lv_if_gt hx hb (hd' rfl) (ab_tg_ok h0) (fun q => by rw [if_pos (decide_eq_true q)] at k; exact k) (fun q => by rw [if_neg (by simpa only [decide_eq_true_eq] using q)] at k; exact k)
  · cases h; exact lv_if_le hx hb (hd' rfl) (ab_tg_ok h0) (fun q => by rw [if_pos (decide_eq_true q)] at k; exact k) (fun q => by rw [if_neg (by simpa only [decide_eq_true_eq] using q)] at k; exact k)
  · cases h; exact lv_icmp_eq hx hb (hd' rfl) (ab_tg_ok h0) (fun q => by rw [if_pos (decide_eq_true q)] at k; exact k) (fun q => by rw [if_neg (by simpa only [decide_eq_true_eq] using q)] at k; exact k)
  · cases h; exact lv_icmp_ne hx hb (hd' rfl) (ab_tg_ok h0) (fun q => by rw [if_pos (decide_eq_true q)] at k; exact k) (fun q => by rw [if_neg (by simpa using q)] at k; exact k)
  · cases h; exact lv_icmp_lt hx hb (hd' rfl) (ab_tg_ok h0) (fun q => by rw [if_pos (decide_eq_true q)] at k; exact k) (fun q => by rw [if_neg (by simpa only [decide_eq_true_eq] using q)] at k; exact k)
  · cases h; exact lv_icmp_ge hx hb (hd' rfl) (ab_tg_ok h0) (fun q => by rw [if_pos (decide_eq_true q)] at k; exact k) (fun q => by rw [if_neg (by simpa only [decide_eq_true_eq] using q)] at k; exact k)
  · cases h; exact lv_icmp_gt hx hb (hd' rfl) (ab_tg_ok h0) (fun q => by rw [if_pos (decide_eq_true q)] at k; exact k) (fun q => by rw [if_neg (by simpa only [decide_eq_true_eq] using q)] at k; exact k)
  · cases h; exact lv_icmp_le hx hb (hd' rfl) (ab_tg_ok h0) (fun q => by rw [if_pos (decide_eq_true q)] at k; exact k) (fun q => by rw [if_neg (by simpa only [decide_eq_true_eq] using q)] at k; exact k)
  · cases h
end ABB
end
section
/-! SOUND, second: the cells -/
theorem ab_look {β : Type} : ∀ {l : List (Nat × β)} {j : Nat} {v : β}, l.lookup j = some v → (j, v) ∈ l
  | [], j, v, h => by cases h
  | (a, b) :: l, j, v, h => by
    rw [List.lookup_cons] at h
    split at h
    · rename_i q
      cases h
      rw [eq_of_beq q]
      exact List.mem_cons_self
    · exact List.mem_cons_of_mem _ (ab_look h)
theorem ab_lk_of {o : Nat} (ho : o < 12) : ab_lk o = true := List.all_eq_true.mp ab_lks o (List.mem_range.mpr ho)
theorem ab_fdW {o j c f q : Nat} (ho : o < 12) (h : ab_fd o j = some (c, f, q)) : ∃ r : vw_C, vwCl[c]? = some r ∧ f < r.2.2 ∧ Cond.fieldLink (ab_cn.getD o "") j r.1 (r.2.1 f).2.1 (r.2.1 f).2.2.1 ∈ ab_wd ∧ (r.2.1 f).1 = r.1 := by
  have h1 := ab_lk_of ho
  simp only [ab_lk, Bool.and_eq_true] at h1
  have h2 := List.all_eq_true.mp h1.1.1.1.1 _ (ab_look h)
  dsimp only at h2
  split at h2
  · rename_i r hr
    simp only [Bool.and_eq_true, decide_eq_true_eq] at h2
    exact ⟨r, hr, h2.1.1, ab_at_in h2.1.2, h2.2⟩
  · cases h2
theorem ab_mdW {o j t nest q : Nat} (ho : o < 12) (h : ab_md o j = some (t, nest, q)) : (if t = 1000 then ab_at q (.methodLink (ab_cn.getD o "") j objectInit) else if t = 1001 then ab_at q (.methodLink (ab_cn.getD o "") j arraycopyName) else if t = 1002 then ab_at q (.methodLink (ab_cn.getD o "") j Lib.MathLoose.abs_long.x) else if t = 1003 then ab_at q (.methodLink (ab_cn.getD o "") j Lib.Math.min.name) else (decide (t < 203) && (if nest = 0 then ab_at q (.methodLink (ab_cn.getD o "") j (ab_row t).1) else decide (nest = 1 ∧ lw_tbl[q]? = some (.methodLinkNest (ab_cn.getD o "") j (ab_row t).1 "MarkedHands"))))) = true := by
  have h1 := ab_lk_of ho
  simp only [ab_lk, Bool.and_eq_true] at h1
  exact List.all_eq_true.mp h1.1.1.1.2 _ (ab_look h)
theorem ab_ndW {o j c q : Nat} (ho : o < 12) (h : ab_nd o j = some (c, q)) : ∃ r : vw_C, vwCl[c]? = some r ∧ Cond.classLink (ab_cn.getD o "") j r.1 ∈ ab_wd := by
  have h1 := ab_lk_of ho
  simp only [ab_lk, Bool.and_eq_true] at h1
  have h2 := List.all_eq_true.mp h1.1.1.2 _ (ab_look h)
  dsimp only at h2
  split at h2
  · rename_i r hr
    exact ⟨r, hr, ab_at_in h2⟩
  · cases h2
theorem ab_kdW {o j q : Nat} {v : Int32} (ho : o < 12) (h : ab_kd o j = some (v, q)) : Cond.constant (ab_cn.getD o "") j v ∈ ab_wd := by
  have h1 := ab_lk_of ho
  simp only [ab_lk, Bool.and_eq_true] at h1
  exact ab_at_in (List.all_eq_true.mp h1.1.2 _ (ab_look h))
theorem ab_kDW {o j q : Nat} {v : Int64} (ho : o < 12) (h : ab_kD o j = some (v, q)) : Cond.constantLong (ab_cn.getD o "") j v ∈ ab_wd := by
  have h1 := ab_lk_of ho
  simp only [ab_lk, Bool.and_eq_true] at h1
  exact ab_at_in (List.all_eq_true.mp h1.2 _ (ab_look h))
def ab_rs (t : FieldType) : Bool := match t with
  | .array _ => true
  | .object _ => true
  | _ => false
/-- how many fields -/
def ab_nf (c : Nat) : Nat := (ab_cls.getD c []).length
/-- a field's kind, its type, whether it is final -/
def ab_k3 (c : Nat) (T : u_T) (ty : Nat → FieldType) (j : Nat) : Bool := match ab_fk c j with
  | 0 => decide (ty j = .int) && !(T j).2.2.2
  | 1 => decide (ty j = .boolean) && !(T j).2.2.2
  | 2 => decide (ty j = .long) && !(T j).2.2.2
  | 3 => ab_rs (ty j) && (T j).2.2.2
  | _ => false
theorem ab_cf : ∀ (c : Nat) (r : vw_C), vwCl[c]? = some r → ∃ ty : Nat → FieldType, (∀ k, k < r.2.2 → parseFieldDescriptor (r.2.1 k).2.2.1 = some (ty k)) ∧ (∀ a, a < r.2.2 → ∀ b, b < r.2.2 → a ≠ b → (r.2.1 a).2.1 ≠ (r.2.1 b).2.1) ∧ r.2.2 = ab_nf c ∧ (∀ j, j < r.2.2 → ab_k3 c r.2.1 ty j = true) ∧ r.1 = ab_cn.getD c ""
  | 0, r, h => by cases h; exact ⟨tyX0, tyX0_ok, nmX0, by decide +kernel, by decide +kernel, rfl⟩
  | 1, r, h => by cases h; exact ⟨tyX1, tyX1_ok, nmX1, by decide +kernel, by decide +kernel, rfl⟩
  | 2, r, h => by cases h; exact ⟨tyX2, tyX2_ok, nmX2, by decide +kernel, by decide +kernel, rfl⟩
  | 3, r, h => by cases h; exact ⟨tyX3, tyX3_ok, nmX3, by decide +kernel, by decide +kernel, rfl⟩
  | 4, r, h => by cases h; exact ⟨tyX4, tyX4_ok, nmX4, by decide +kernel, by decide +kernel, rfl⟩
  | 5, r, h => by cases h; exact ⟨tyX5, tyX5_ok, nmX5, by decide +kernel, by decide +kernel, rfl⟩
  | 6, r, h => by cases h; exact ⟨tyX6, tyX6_ok, nmX6, by decide +kernel, by decide +kernel, rfl⟩
  | 7, r, h => by cases h; exact ⟨tyX7, tyX7_ok, nmX7, by decide +kernel, by decide +kernel, rfl⟩
  | 8, r, h => by cases h; exact ⟨tyX8, tyX8_ok, nmX8, by decide +kernel, by decide +kernel, rfl⟩
  | c + 9, r, h => by simp [vwCl] at h
theorem ab_cw {c : Nat} {r : vw_C} (h : vwCl[c]? = some r) : (∀ w ∈ u_ws r.1 r.2.1 r.2.2, w ∈ ab_wd) ∧ Cond.instantiable r.1 r.2.2 ∈ ab_wd ∧ Cond.initialized r.1 ∈ ab_wd := by
  have h1 := List.all_eq_true.mp ab_cks r (List.mem_of_getElem? h)
  simp only [ab_ck, Bool.and_eq_true] at h1
  exact ⟨fun w hw => ab_in_in (List.all_eq_true.mp h1.1.1 w hw), ab_in_in h1.1.2, ab_in_in h1.2⟩
theorem ab_oth {w : Cond} (h : w ∈ ([.instanceMethod objectInit, .code objectInit ⟨#[0xb1]⟩ 1 none, .native arraycopyName, .static arraycopyName, .initialized "java/lang/System", .static Lib.MathLoose.abs_long.x, .initialized "java/lang/Math", .code Lib.MathLoose.abs_long.x Lib.MathLoose.abs_long.code 2 (some .long), .static Lib.Math.min.name, .code Lib.Math.min.name Lib.Math.min.code 2 (some .int), .arrayClass .int, .arrayClass .long, .arrayClass .boolean] : List Cond)) : w ∈ ab_wd := ab_in_in (List.all_eq_true.mp ab_others w h)
theorem ab_maxs : ([.methodLink (ab_cn.getD 1 "") 118 Lib.Math.max.name, .static Lib.Math.max.name, .code Lib.Math.max.name Lib.Math.max.code 2 (some .int)] : List Cond).all ab_in = true := by decide +kernel
theorem ab_maxw {w : Cond} (h : w ∈ ([.methodLink (ab_cn.getD 1 "") 118 Lib.Math.max.name, .static Lib.Math.max.name, .code Lib.Math.max.name Lib.Math.max.code 2 (some .int)] : List Cond)) : w ∈ ab_wd := ab_in_in (List.all_eq_true.mp ab_maxs w h)
/-- the machine's cells for the small machine's state: their classes, their addresses -/
abbrev ab_C3 : Type := ClassId × ClassId × ClassId
def ab_fv (c : Nat) (ad : Nat → Nat) (z : ab_S) (k j : Nat) : Value := if ab_fk c j = 2 then .long (z.2.1 k j) else if ab_fk c j = 3 then va_rf ((ab_rf z.2.2.1 k j).map ad) else .int (z.1 k j)
def ab_fs (c : Nat) (ad : Nat → Nat) (z : ab_S) (k : Nat) : List Value := (List.range (ab_nf c)).map (ab_fv c ad z k)
def ab_ce (cs : ab_C3) (ad : Nat → Nat) (z : ab_S) (k : Nat) : va_E := if (ab_ly k).1 = 0 then .inr ((ab_ly k).2, ab_fs (ab_ly k).2 ad z k) else if (ab_ly k).1 = 2 then .inl (cs.2.1, (ab_ly k).2, .inr (.inl (z.2.1 k))) else .inl (if (ab_ly k).1 = 3 then cs.2.2 else cs.1, (ab_ly k).2, .inl (z.1 k))
def ab_wl (cs : ab_C3) (ad : Nat → Nat) (z : ab_S) : va_W := (List.range z.2.2.2).map (fun k => (ad k, ab_ce cs ad z k))
def ab_ty3 (cs : ab_C3) : List (ClassId × FieldType) := [(cs.1, .int), (cs.2.1, .long), (cs.2.2, .boolean)]
theorem ab_wl_at {cs : ab_C3} {ad : Nat → Nat} {z : ab_S} {k : Nat} (hk : k < z.2.2.2) : (ab_wl cs ad z)[k]? = some (ad k, ab_ce cs ad z k) := by
  simp [ab_wl, hk]
theorem ab_ce_obj {cs : ab_C3} {ad : Nat → Nat} {z : ab_S} {k c : Nat} (h : ab_ly k = (0, c)) : ab_ce cs ad z k = .inr (c, ab_fs c ad z k) := by simp [ab_ce, h]
theorem ab_ce_int {cs : ab_C3} {ad : Nat → Nat} {z : ab_S} {k : Nat} (h : (ab_ly k).1 = 1) : ab_ce cs ad z k = .inl (cs.1, (ab_ly k).2, .inl (z.1 k)) := by simp [ab_ce, h]
theorem ab_ce_long {cs : ab_C3} {ad : Nat → Nat} {z : ab_S} {k : Nat} (h : (ab_ly k).1 = 2) : ab_ce cs ad z k = .inl (cs.2.1, (ab_ly k).2, .inr (.inl (z.2.1 k))) := by simp [ab_ce, h]
theorem ab_ce_bool {cs : ab_C3} {ad : Nat → Nat} {z : ab_S} {k : Nat} (h : (ab_ly k).1 = 3) : ab_ce cs ad z k = .inl (cs.2.2, (ab_ly k).2, .inl (z.1 k)) := by simp [ab_ce, h]
theorem ab_fs_at {c : Nat} {ad : Nat → Nat} {z : ab_S} {k f : Nat} (hf : f < ab_nf c) : (ab_fs c ad z k)[f]? = some (ab_fv c ad z k f) := by simp [ab_fs, hf]
theorem ab_fs_set {c : Nat} {ad : Nat → Nat} {z z' : ab_S} {k f : Nat} {v : Value} (h1 : ab_fv c ad z' k f = v) (h2 : ∀ j, j ≠ f → ab_fv c ad z' k j = ab_fv c ad z k j) : (ab_fs c ad z k).set f v = ab_fs c ad z' k := by
  apply List.ext_getElem?
  intro j
  rw [List.getElem?_set]
  by_cases hj : f = j
  · subst hj
    rw [if_pos rfl]
    by_cases hl : f < ab_nf c
    · rw [if_pos (by simp [ab_fs, hl]), ab_fs_at hl, h1]
    · rw [if_neg (by simp [ab_fs, hl])]
      simp [ab_fs, hl]
  · rw [if_neg hj]
    by_cases hl : j < ab_nf c
    · rw [ab_fs_at hl, ab_fs_at hl, h2 j (Ne.symm hj)]
    · simp [ab_fs, hl]
theorem ab_wl_set {cs : ab_C3} {ad : Nat → Nat} {z z' : ab_S} {k : Nat} (hn : z'.2.2.2 = z.2.2.2) (ho : ∀ j, j ≠ k → ab_ce cs ad z' j = ab_ce cs ad z j) : (ab_wl cs ad z).set k (ad k, ab_ce cs ad z' k) = ab_wl cs ad z' := by
  apply List.ext_getElem?
  intro j
  rw [List.getElem?_set]
  by_cases hj : k = j
  · subst hj
    rw [if_pos rfl]
    by_cases hl : k < z.2.2.2
    · rw [if_pos (by simp [ab_wl, hl]), ab_wl_at (by rw [hn]; exact hl)]
    · rw [if_neg (by simp [ab_wl, hl])]
      simp [ab_wl, hl, hn]
  · rw [if_neg hj]
    by_cases hl : j < z.2.2.2
    · rw [ab_wl_at hl, ab_wl_at (by rw [hn]; exact hl), ho j (Ne.symm hj)]
    · simp [ab_wl, hl, hn]
theorem ab_fv_congr {c : Nat} {ad : Nat → Nat} {z z' : ab_S} {k j : Nat} (h1 : z'.1 k j = z.1 k j) (h2 : z'.2.1 k j = z.2.1 k j) (h3 : ab_rf z'.2.2.1 k j = ab_rf z.2.2.1 k j) : ab_fv c ad z' k j = ab_fv c ad z k j := by
  unfold ab_fv
  rw [h1, h2, h3]
theorem ab_ce_congr {cs : ab_C3} {ad : Nat → Nat} {z z' : ab_S} {k : Nat} (h1 : z'.1 k = z.1 k) (h2 : z'.2.1 k = z.2.1 k) (h3 : ∀ j, ab_rf z'.2.2.1 k j = ab_rf z.2.2.1 k j) : ab_ce cs ad z' k = ab_ce cs ad z k := by
  have e : ab_fs (ab_ly k).2 ad z' k = ab_fs (ab_ly k).2 ad z k := List.map_congr_left (fun j _ => ab_fv_congr (by rw [h1]) (by rw [h2]) (h3 j))
  unfold ab_ce
  rw [h1, h2, e]
theorem va_up_s {α : Type} (f : Nat → α) (k : Nat) (v : α) : va_up f k v k = v := if_pos rfl
theorem va_up_n {α : Type} (f : Nat → α) {k j : Nat} (v : α) (h : j ≠ k) : va_up f k v j = f j := if_neg h
theorem ab_sr_n {R : List (List (Option Nat))} {k f k' f' : Nat} {v : Option Nat} (h : ¬ (k' = k ∧ f' = f)) : ab_rf (ab_sr R k f v) k' f' = ab_rf R k' f' := by
  unfold ab_rf ab_sr
  simp only [List.getD_eq_getElem?_getD, List.getElem?_set]
  by_cases hk : k = k'
  · subst hk
    rw [if_pos rfl]
    have hf : ¬ f = f' := fun q => h ⟨rfl, q.symm⟩
    by_cases hl : k < R.length
    · rw [if_pos hl]
      simp [hf]
    · have e1 : R[k]? = none := List.getElem?_eq_none (Nat.not_lt.mp hl)
      rw [if_neg hl, e1]
  · rw [if_neg hk]
theorem ab_vp {x : Int32} {n : Nat} (h0 : 0 ≤ x.toInt) (h1 : x.toInt < (n : Int)) : vp_in x n := vp_in_iff.mpr ⟨h0, h1⟩
theorem ab_nar {x : Int32} (h : x = 0 ∨ x = 1) : vp_nar .boolean x = x ∧ narrow .boolean (.int x) = .int x ∧ fits .boolean (.int x) = true := by
  rcases h with rfl | rfl <;> decide +kernel
theorem ab_upd (f : Nat → Int32) (k : Nat) (x : Int32) : upd f k x = va_up f k x := rfl
theorem ab_updL (f : Nat → Int64) (k : Nat) (x : Int64) : vp_updL f k x = va_up f k x := rfl
end
section
section ABC
variable {p : Program} {l : Launch} {e : Env} {R : Room} {s : State} {m : MethodId} {args : Array Value} {below : List Frame} {meth : Method} {c : Code} {H : Heap} {locs : List Loc} {cells slots : Nat} {Q : State → Prop}
variable {cc : ByteArray} {pc : Nat} {lc : Array Slot} {ad : Nat → Nat} {nL : Nat} {D : va_G} {cs : ab_C3} {A : Nat → Prop} {H0 : Heap}
set_option maxHeartbeats 8000000 in
theorem ab_he_W {o : Nat} {b : Bool} {i : Instr} {st st' : List Value} {z z' : ab_S} (hx : p.tables.exec = Jvm.exec) (hb : c.code = cc) (h : ab_he o b i st z = some (st', z')) (hd : decode cc pc = .ok (i, ab_sz i)) (ho : o < 12) (hown : s.vm.findClass (ab_cn.getD o "") = some m.cls) (hml : c.maxLocals = lc.size) (hb1 : b = true → meth.name = "<init>") (hts : ∀ w ∈ ab_wd, w.before args s = true) (hK : va_K D vwCl (ab_ty3 cs) s) (hP : va_P D vwCl (ab_wl cs ad z) H) (hD : va_D A (ab_wl cs ad z)) (hS : va_S A H0 H locs) (hfr : 1 ≤ R.frames) (hlo : 64 ≤ R.locals) (hce : cells ≤ R.cells) (hsl : slots ≤ R.slots)
    (k : ∀ (H' : Heap) (locs' : List Loc), z'.2.2.2 = z.2.2.2 → va_P D vwCl (ab_wl cs ad z') H' → va_D A (ab_wl cs ad z') → va_S A H0 H' locs' → W p l e R s m args below meth c H' locs' cells slots Q (F0 m (pc + ab_sz i) lc (st'.map (ab_v ad)))) : W p l e R s m args below meth c H locs cells slots Q (F0 m pc lc (st.map (ab_v ad))) := by
  have hct : ∀ st : List Value, (st.map (fun v => v.category)).sum ≤ 8 → ((st.map (ab_v ad)).map (fun v => v.category)).sum ≤ 8 := fun st h => by rw [ab_v_cats]; exact h
  have put : ∀ {k0 : Nat} {z1 : ab_S} {e1 : va_E} {H1 : Heap} {locs1 : List Loc}, z1.2.2.2 = z.2.2.2 → (∀ j, j ≠ k0 → ab_ce cs ad z1 j = ab_ce cs ad z j) → ab_ce cs ad z1 k0 = e1 → va_P D vwCl ((ab_wl cs ad z).set k0 (ad k0, e1)) H1 → va_D A ((ab_wl cs ad z).set k0 (ad k0, e1)) → va_P D vwCl (ab_wl cs ad z1) H1 ∧ va_D A (ab_wl cs ad z1) := by
    intro k0 z1 e1 H1 locs1 hn hoth he hP1 hD1
    rw [← he, ab_wl_set hn hoth] at hP1 hD1
    exact ⟨hP1, hD1⟩
  unfold ab_he at h
  split at h
  · rw [Option.map_eq_some_iff] at h
    obtain ⟨⟨v, q⟩, h1, h2⟩ := h
    cases h2
    exact lv_ldcw hx hb hown (hts _ (ab_kdW ho h1)) hd (k H locs rfl hP hD hS)
  · rw [Option.map_eq_some_iff] at h
    obtain ⟨⟨v, q⟩, h1, h2⟩ := h
    cases h2
    exact lv_ldc2 hx hb hown (hts _ (ab_kDW ho h1)) hd (k H locs rfl hP hD hS)
  · split at h
    · rename_i j k0 st0 _ c0 f q hfd
      obtain ⟨⟨C, T, N⟩, hr, hf, hw, hdec⟩ := ab_fdW ho hfd
      obtain ⟨ty, hty, hnm, hnf, hk3, hcn⟩ := ab_cf c0 _ hr
      dsimp only at hf hw hdec hty hnm hnf hk3 hcn
      split at h
      · rename_i hk0
        have he := ab_wl_at (cs := cs) (ad := ad) hk0.2
        rw [ab_ce_obj hk0.1] at he
        have go : ∀ v : Value, ab_fv c0 ad z k0 f = v → W p l e R s m args below meth c H locs cells slots Q (F0 m (pc + 3) lc (v :: st0.map (ab_v ad))) → W p l e R s m args below meth c H locs cells slots Q (F0 m pc lc (.ref (ad k0) :: st0.map (ab_v ad))) := by
          intro v hv kk
          exact va_get hx hb hts (ab_cw hr).1 hown hK hP k0 he hr f hf (hts _ hw) (by rw [hdec]; exact fun x hx => hx) (by rw [ab_fs_at (hnf ▸ hf), hv]) hd kk
        split at h
        · rename_i hk2
          cases h
          exact go (.long (z.2.1 k0 f)) (by simp [ab_fv, hk2]) (k H locs rfl hP hD hS)
        · rename_i hk2
          split at h
          · rename_i hk3'
            split at h
            · rename_i r hrf
              cases h
              exact go (.ref (ad r)) (by simp [ab_fv, hk3', hrf, va_rf]) (k H locs rfl hP hD hS)
            · cases h
          · rename_i hk3'
            split at h
            · cases h
              exact go (.int (z.1 k0 f)) (by simp [ab_fv, hk2, hk3']) (k H locs rfl hP hD hS)
            · cases h
      · cases h
    · cases h
  · split at h
    · rename_i j x k0 st0 _ c0 f q hfd
      obtain ⟨⟨C, T, N⟩, hr, hf, hw, hdec⟩ := ab_fdW ho hfd
      obtain ⟨ty, hty, hnm, hnf, hk3, hcn⟩ := ab_cf c0 _ hr
      dsimp only at hf hw hdec hty hnm hnf hk3 hcn
      split at h
      · rename_i hk0
        cases h
        have he := ab_wl_at (cs := cs) (ad := ad) hk0.2.1
        rw [ab_ce_obj hk0.1] at he
        have hkk := hk3 f hf
        have hty2 : narrow (ty f) (.int x) = .int x ∧ fits (ty f) (.int x) = true ∧ (T f).2.2.2 = false ∧ ab_fk c0 f ≠ 2 ∧ ab_fk c0 f ≠ 3 := by
          rcases hk0.2.2 with h0 | ⟨h0, hx01⟩
          · simp only [ab_k3, h0, Bool.and_eq_true, decide_eq_true_eq, Bool.not_eq_true'] at hkk
            rw [hkk.1]
            exact ⟨rfl, rfl, hkk.2, by omega, by omega⟩
          · simp only [ab_k3, h0, Bool.and_eq_true, decide_eq_true_eq, Bool.not_eq_true'] at hkk
            rw [hkk.1]
            exact ⟨(ab_nar hx01).2.1, (ab_nar hx01).2.2, hkk.2, by omega, by omega⟩
        refine va_put hx hb hts (ab_cw hr).1 ty hty hnm hown hK hP hD hS k0 he hr f hf (hts _ hw) (by rw [hdec]; exact fun x hx => hx) hty2.2.2.1 (hty f hf) hty2.1 hty2.2.1 (by simp [ab_fs]; omega) hd (fun H1 locs1 hP1 hD1 hS1 => ?_)
        obtain ⟨hP2, hD2⟩ := put (z1 := (va_up z.1 k0 (va_up (z.1 k0) f x), z.2)) (locs1 := locs1) rfl (fun j hj => ab_ce_congr (va_up_n _ _ hj) rfl (fun _ => rfl)) (by rw [ab_ce_obj hk0.1]; exact congrArg (fun l => Sum.inr (c0, l)) (ab_fs_set (c := c0) (ad := ad) (z := z) (z' := (va_up z.1 k0 (va_up (z.1 k0) f x), z.2)) (k := k0) (f := f) (v := .int x) (by simp [ab_fv, hty2.2.2.2.1, hty2.2.2.2.2, va_up]) (fun j hj => ab_fv_congr (by show va_up z.1 k0 _ k0 j = _; rw [va_up_s, va_up_n _ _ hj]) rfl rfl)).symm) hP1 hD1
        exact k H1 locs1 rfl hP2 hD2 hS1
      · cases h
    · cases h
  · split at h
    · rename_i j x k0 st0 _ c0 f q hfd
      obtain ⟨⟨C, T, N⟩, hr, hf, hw, hdec⟩ := ab_fdW ho hfd
      obtain ⟨ty, hty, hnm, hnf, hk3, hcn⟩ := ab_cf c0 _ hr
      dsimp only at hf hw hdec hty hnm hnf hk3 hcn
      split at h
      · rename_i hk0
        cases h
        have he := ab_wl_at (cs := cs) (ad := ad) hk0.2.1
        rw [ab_ce_obj hk0.1] at he
        have hkk := hk3 f hf
        simp only [ab_k3, hk0.2.2, Bool.and_eq_true, decide_eq_true_eq, Bool.not_eq_true'] at hkk
        refine va_put hx hb hts (ab_cw hr).1 ty hty hnm hown hK hP hD hS k0 he hr f hf (hts _ hw) (by rw [hdec]; exact fun x hx => hx) hkk.2 (hty f hf) (by rw [hkk.1]; rfl) (by rw [hkk.1]; rfl) (by simp [ab_fs]; omega) hd (fun H1 locs1 hP1 hD1 hS1 => ?_)
        obtain ⟨hP2, hD2⟩ := put (z1 := (z.1, va_up z.2.1 k0 (va_up (z.2.1 k0) f x), z.2.2)) (locs1 := locs1) rfl (fun j hj => ab_ce_congr rfl (va_up_n _ _ hj) (fun _ => rfl)) (by rw [ab_ce_obj hk0.1]; exact congrArg (fun l => Sum.inr (c0, l)) (ab_fs_set (c := c0) (ad := ad) (z := z) (z' := (z.1, va_up z.2.1 k0 (va_up (z.2.1 k0) f x), z.2.2)) (k := k0) (f := f) (v := .long x) (by simp [ab_fv, hk0.2.2, va_up]) (fun j hj => ab_fv_congr rfl (by show va_up z.2.1 k0 _ k0 j = _; rw [va_up_s, va_up_n _ _ hj]) rfl)).symm) hP1 hD1
        exact k H1 locs1 rfl hP2 hD2 hS1
      · cases h
    · cases h
  · split at h
    · rename_i j x k0 st0 _ c0 f q hfd
      obtain ⟨⟨C, T, N⟩, hr, hf, hw, hdec⟩ := ab_fdW ho hfd
      obtain ⟨ty, hty, hnm, hnf, hk3, hcn⟩ := ab_cf c0 _ hr
      dsimp only at hf hw hdec hty hnm hnf hk3 hcn
      split at h
      · rename_i hk0
        cases h
        obtain ⟨hbt, hly, hlt, hfk, rfl, hrr⟩ := hk0
        have he := ab_wl_at (cs := cs) (ad := ad) hlt
        rw [ab_ce_obj hly] at he
        have hkk := hk3 f hf
        simp only [ab_k3, hfk, Bool.and_eq_true] at hkk
        have hty2 : narrow (ty f) (.ref (ad x)) = .ref (ad x) ∧ fits (ty f) (.ref (ad x)) = true := by
          have h1 := hkk.1
          cases hq : ty f with
          | array t => exact ⟨rfl, rfl⟩
          | object t => exact ⟨rfl, rfl⟩
          | _ => rw [hq] at h1; cases h1
        refine va_putF hx hb hts (ab_cw hr).1 ty hty hnm hown hK hP hD hS k0 he hr f hf (hts _ hw) (by rw [hdec]; exact fun x hx => hx) hkk.2 (hb1 hbt) (by rw [hdec, hcn]) (hty f hf) hty2.1 hty2.2 (by simp [ab_fs]; omega) hd (fun H1 locs1 hP1 hD1 hS1 => ?_)
        obtain ⟨hP2, hD2⟩ := put (z1 := (z.1, z.2.1, ab_sr z.2.2.1 k0 f (some x), z.2.2.2)) (locs1 := locs1) rfl (fun j hj => ab_ce_congr rfl rfl (fun f' => ab_sr_n (fun q => hj q.1))) (by rw [ab_ce_obj hly]; exact congrArg (fun l => Sum.inr (c0, l)) (ab_fs_set (c := c0) (ad := ad) (z := z) (z' := (z.1, z.2.1, ab_sr z.2.2.1 k0 f (some x), z.2.2.2)) (k := k0) (f := f) (v := .ref (ad x)) (by simp [ab_fv, hfk, hrr, va_rf]) (fun j hj => ab_fv_congr rfl rfl (ab_sr_n (fun q => hj q.2)))).symm) hP1 hD1
        exact k H1 locs1 rfl hP2 hD2 hS1
      · cases h
    · cases h
  · split at h
    · rename_i x k0 st0 hk0
      cases h
      have he := ab_wl_at (cs := cs) (ad := ad) hk0.2.1
      rw [ab_ce_int hk0.1] at he
      exact va_iald hx hb hK hP k0 0 he rfl (ab_vp hk0.2.2.1 hk0.2.2.2) hd (k H locs rfl hP hD hS)
    · cases h
  · split at h
    · rename_i x k0 st0 hk0
      cases h
      have he := ab_wl_at (cs := cs) (ad := ad) hk0.2.1
      rw [ab_ce_bool hk0.1] at he
      exact va_zald hx hb hK hP k0 2 he rfl (ab_vp hk0.2.2.1 hk0.2.2.2) hd (k H locs rfl hP hD hS)
    · cases h
  · split at h
    · rename_i x k0 st0 hk0
      cases h
      have he := ab_wl_at (cs := cs) (ad := ad) hk0.2.1
      rw [ab_ce_long hk0.1] at he
      exact va_lald hx hb hK hP k0 1 he rfl (ab_vp hk0.2.2.1 hk0.2.2.2) hd (k H locs rfl hP hD hS)
    · cases h
  · split at h
    · rename_i v x k0 st0 hk0
      cases h
      have he := ab_wl_at (cs := cs) (ad := ad) hk0.2.1
      rw [ab_ce_int hk0.1] at he
      refine va_iast hx hb hK hP hD hS k0 0 he rfl (ab_vp hk0.2.2.1 hk0.2.2.2) hd (fun H1 locs1 hP1 hD1 hS1 => ?_)
      obtain ⟨hP2, hD2⟩ := put (z1 := (va_up z.1 k0 (va_up (z.1 k0) x.toNatClampNeg v), z.2)) (locs1 := locs1) rfl (fun j hj => ab_ce_congr (va_up_n _ _ hj) rfl (fun _ => rfl)) (by rw [ab_ce_int hk0.1]; show Sum.inl (_, _, Sum.inl (va_up z.1 k0 _ k0)) = _; rw [va_up_s]; rfl) hP1 hD1
      exact k H1 locs1 rfl hP2 hD2 hS1
    · cases h
  · split at h
    · rename_i v x k0 st0 hk0
      cases h
      have he := ab_wl_at (cs := cs) (ad := ad) hk0.2.2.1
      rw [ab_ce_bool hk0.2.1] at he
      refine va_zast hx hb hK hP hD hS k0 2 he rfl (ab_vp hk0.2.2.2.1 hk0.2.2.2.2) hd (fun H1 locs1 hP1 hD1 hS1 => ?_)
      rw [(ab_nar hk0.1).1] at hP1 hD1
      obtain ⟨hP2, hD2⟩ := put (z1 := (va_up z.1 k0 (va_up (z.1 k0) x.toNatClampNeg v), z.2)) (locs1 := locs1) rfl (fun j hj => ab_ce_congr (va_up_n _ _ hj) rfl (fun _ => rfl)) (by rw [ab_ce_bool hk0.2.1]; show Sum.inl (_, _, Sum.inl (va_up z.1 k0 _ k0)) = _; rw [va_up_s]; rfl) hP1 hD1
      exact k H1 locs1 rfl hP2 hD2 hS1
    · cases h
  · split at h
    · rename_i v x k0 st0 hk0
      cases h
      have he := ab_wl_at (cs := cs) (ad := ad) hk0.2.1
      rw [ab_ce_long hk0.1] at he
      refine va_last hx hb hK hP hD hS k0 1 he rfl (ab_vp hk0.2.2.1 hk0.2.2.2) hd (fun H1 locs1 hP1 hD1 hS1 => ?_)
      obtain ⟨hP2, hD2⟩ := put (z1 := (z.1, va_up z.2.1 k0 (va_up (z.2.1 k0) x.toNatClampNeg v), z.2.2)) (locs1 := locs1) rfl (fun j hj => ab_ce_congr rfl (va_up_n _ _ hj) (fun _ => rfl)) (by rw [ab_ce_long hk0.1]; show Sum.inl (_, _, Sum.inr (Sum.inl (va_up z.2.1 k0 _ k0))) = _; rw [va_up_s]; rfl) hP1 hD1
      exact k H1 locs1 rfl hP2 hD2 hS1
    · cases h
  · split at h
    · rename_i j k0 st0 _ nest q hmd
      split at h
      · rename_i hc8
        cases h
        have hw := ab_mdW ho hmd
        rw [if_pos rfl] at hw
        refine W.objInit hx hb hown (hts _ (ab_at_in hw)) (hts _ (ab_oth (by simp))) (hts _ (ab_oth (by simp))) rfl hml.symm rfl hd hfr ?_ (k H locs rfl hP hD hS)
        have := hct _ hc8
        show 2 * 0 + _ + 12 ≤ _
        omega
      · cases h
    · cases h
  · split at h
    · rename_i j x st0 _ nest q hmd
      split at h
      · rename_i hc8
        cases h
        have hw := ab_mdW ho hmd
        rw [if_neg (by decide), if_neg (by decide), if_pos rfl] at hw
        have := hct _ hc8
        exact va_mabs_long hx hb hml hown (hts _ (ab_at_in hw)) (hts _ (ab_oth (by simp))) (hts _ (ab_oth (by simp))) (hts _ (ab_oth (by simp))) hfr (by omega) hce hsl hd (k H locs rfl hP hD hS)
      · cases h
    · cases h
  · split at h
    · rename_i j y x st0 _ nest q hmd
      split at h
      · rename_i hc8
        cases h
        have hw := ab_mdW ho hmd
        rw [if_neg (by decide), if_neg (by decide), if_neg (by decide), if_pos rfl] at hw
        have := hct _ hc8
        exact va_mmin hx hb hml hown (hts _ (ab_at_in hw)) (hts _ (ab_oth (by simp))) (hts _ (ab_oth (by simp))) (hts _ (ab_oth (by simp))) hfr (by omega) hce hsl hd (k H locs rfl hP hD hS)
      · cases h
    · rename_i j y x st0 _ nest q hmd
      split at h
      · rename_i k0 sp h0 st1
        split at h
        · rename_i hk0
          cases h
          have hw := ab_mdW ho hmd
          rw [if_neg (by decide), if_pos rfl] at hw
          have h8 := hct _ hk0.1.1
          have hea := ab_wl_at (cs := cs) (ad := ad) hk0.1.2.2.2.1
          have heb := ab_wl_at (cs := cs) (ad := ad) hk0.1.2.2.2.2
          rw [ab_ce_int hk0.1.2.1] at hea
          rw [ab_ce_int hk0.1.2.2.1] at heb
          have nn : ∀ w : Int32, 0 ≤ w.toInt → ¬ w < 0 ∧ (w.toNatClampNeg : Int) = w.toInt := by
            intro w hw
            refine ⟨fun q => ?_, ?_⟩
            · rw [Int32.lt_iff_toInt_lt] at q
              have e0 : (0 : Int32).toInt = 0 := by decide
              omega
            · rw [Int32.toNatClampNeg]
              omega
          obtain ⟨a1, a2, a3, a4, a5⟩ := hk0.2
          refine va_copyi hx hb hml hown (hts _ (ab_at_in hw)) (hts _ (ab_oth (by simp))) (hts _ (ab_oth (by simp))) (hts _ (ab_oth (by simp))) hK hP hD hS h0 k0 0 0 heb hea rfl rfl rfl (nn _ a2).1 (nn _ a3).1 (nn _ a1).1 ?_ ?_ (fun _ _ => rfl) hfr ?_ hd (fun H1 locs1 hP1 hD1 hS1 => ?_)
          · have := (nn _ a2).2; have := (nn _ a1).2; omega
          · have := (nn _ a3).2; have := (nn _ a1).2; omega
          · have e1 : nativeFrameWords "java/lang/System" "arraycopy" 5 ≤ 40 := by decide +kernel
            omega
          · obtain ⟨hP2, hD2⟩ := put (z1 := (va_up z.1 k0 (va_cpy (z.1 h0) (z.1 k0) sp.toNatClampNeg x.toNatClampNeg y.toNatClampNeg), z.2)) (locs1 := locs1) rfl (fun j hj => ab_ce_congr (va_up_n _ _ hj) rfl (fun _ => rfl)) (by rw [ab_ce_int hk0.1.2.1]; show Sum.inl (_, _, Sum.inl (va_up z.1 k0 _ k0)) = _; rw [va_up_s]) hP1 hD1
            exact k H1 locs1 rfl hP2 hD2 hS1
        · cases h
      · cases h
    · cases h
    · split at h
      · rename_i j y x st0 _ hmd hc
        obtain ⟨rfl, rfl, hc8⟩ := hc
        cases h
        have := hct _ hc8
        exact va_mmax hx hb hml hown (hts _ (ab_maxw (by simp))) (hts _ (ab_maxw (by simp))) (hts _ (ab_oth (by simp))) (hts _ (ab_maxw (by simp))) hfr (by omega) hce hsl hd (k H locs rfl hP hD hS)
      · cases h
  · cases h
end ABC
end
section
/-! SOUND, third: new cells -/
def ab_wz (k : Nat) : Nat := if (ab_ly k).1 = 0 then ab_nf (ab_ly k).2 else (ab_ly k).2
/-- slots of the first n cells -/
def ab_sl : Nat → Nat
  | 0 => 0
  | n + 1 => ab_sl n + ab_wz n
theorem ab_sl_le {a b : Nat} (h : a ≤ b) : ab_sl a ≤ ab_sl b := by
  induction b with
  | zero => rw [Nat.le_zero.mp h]; exact Nat.le_refl _
  | succ b ih =>
    rcases Nat.lt_or_ge b a with q | q
    · rw [show a = b + 1 by omega]; exact Nat.le_refl _
    · exact Nat.le_trans (ih q) (Nat.le_add_right _ _)
theorem ab_v_n {n : Nat} {ad ad' : Nat → Nat} (hA : ∀ k, (k < n ∨ 999 ≤ k) → ad' k = ad k) {v : Value} (h : ab_bv n v = true) : ab_v ad' v = ab_v ad v := by
  cases v with
  | ref k =>
    simp only [ab_bv, decide_eq_true_eq] at h
    show Value.ref (ad' k) = Value.ref (ad k)
    rw [hA k h]
  | _ => rfl
theorem ab_vs_n {n : Nat} {ad ad' : Nat → Nat} (hA : ∀ k, (k < n ∨ 999 ≤ k) → ad' k = ad k) {st : List Value} (h : st.all (ab_bv n) = true) : st.map (ab_v ad') = st.map (ab_v ad) :=
  List.map_congr_left (fun v hv => ab_v_n hA (List.all_eq_true.mp h v hv))
theorem ab_has_n {lc : Array Slot} {nL n : Nat} {ad ad' : Nat → Nat} {ls : ab_L} (hA : ∀ k, (k < n ∨ 999 ≤ k) → ad' k = ad k) (h : ls.all (ab_bo n) = true) (hl : ab_has lc nL ad ls) : ab_has lc nL ad' ls := by
  refine ⟨hl.1, hl.2.1, hl.2.2.1, fun i v hv => ?_⟩
  have hm : some v ∈ ls := by
    rw [List.getD_eq_getElem?_getD] at hv
    cases hq : ls[i]? with
    | none => rw [hq] at hv; cases hv
    | some w =>
      rw [hq] at hv
      have : w = some v := hv
      subst this
      exact List.mem_of_getElem? hq
  rw [ab_v_n hA (List.all_eq_true.mp h _ hm)]
  exact hl.2.2.2 i v hv
theorem ab_rf_n {n : Nat} {R : List (List (Option Nat))} (h : R.all (fun r => r.all (fun o => match o with
  | some k => decide (k < n)
  | none => true)) = true) {k j x : Nat} (hx : ab_rf R k j = some x) : x < n := by
  unfold ab_rf at hx
  rw [List.getD_eq_getElem?_getD, List.getD_eq_getElem?_getD] at hx
  cases hq : R[k]? with
  | none => rw [hq] at hx; simp at hx
  | some r =>
    rw [hq] at hx
    cases hw : r[j]? with
    | none => simp [hw] at hx
    | some o =>
      have ho : o = some x := by simpa [hw] using hx
      subst ho
      have h1 := List.all_eq_true.mp (List.all_eq_true.mp h r (List.mem_of_getElem? hq)) _ (List.mem_of_getElem? hw)
      simpa using h1
/-- the world at other addresses, where the cells that are there keep theirs -/
theorem ab_wl_n {cs : ab_C3} {n : Nat} {ad ad' : Nat → Nat} {z : ab_S} (hA : ∀ k, k < n → ad' k = ad k) (hn : z.2.2.2 ≤ n) (h : z.2.2.1.all (fun r => r.all (fun o => match o with
  | some k => decide (k < n)
  | none => true)) = true) : ab_wl cs ad' z = ab_wl cs ad z := by
  refine List.map_congr_left (fun k hk => ?_)
  have hk := List.mem_range.mp hk
  have e1 : ∀ c, ab_fs c ad' z k = ab_fs c ad z k := by
    intro c
    refine List.map_congr_left (fun j _ => ?_)
    unfold ab_fv
    cases hq : ab_rf z.2.2.1 k j with
    | none => rfl
    | some x =>
      rw [Option.map_some, Option.map_some, hA x (ab_rf_n h hq)]
  rw [hA k (by omega)]
  unfold ab_ce
  rw [e1]
theorem ab_wl_push {cs : ab_C3} {ad : Nat → Nat} {z z' : ab_S} (hn : z'.2.2.2 = z.2.2.2 + 1) (ho : ∀ j, j < z.2.2.2 → ab_ce cs ad z' j = ab_ce cs ad z j) : ab_wl cs ad z' = ab_wl cs ad z ++ [(ad z.2.2.2, ab_ce cs ad z' z.2.2.2)] := by
  unfold ab_wl
  rw [hn, List.range_succ, List.map_append]
  congr 1
  exact List.map_congr_left (fun j hj => by rw [ho j (List.mem_range.mp hj)])
theorem ab_ly75 {k : Nat} (h : (ab_ly k).1 ≠ 9) : k < 75 := by
  rcases Nat.lt_or_ge k 75 with q | q
  · exact q
  · exact absurd (by unfold ab_ly; rw [List.getD_eq_getElem?_getD, List.getElem?_eq_none (by exact q)]; rfl) h
section ABD
variable {p : Program} {l : Launch} {e : Env} {R : Room} {s : State} {m : MethodId} {args : Array Value} {below : List Frame} {meth : Method} {c : Code} {H : Heap} {locs : List Loc} {cells slots : Nat} {Q : State → Prop}
variable {cc : ByteArray} {pc : Nat} {lc : Array Slot} {ad : Nat → Nat} {nL : Nat} {D : va_G} {cs : ab_C3} {A : Nat → Prop} {H0 : Heap}
set_option maxHeartbeats 8000000 in
theorem ab_nw_W {o : Nat} {i : Instr} {ls : ab_L} {st st' : List Value} {z z' : ab_S} (hx : p.tables.exec = Jvm.exec) (hb : c.code = cc) (h : ab_nw o i ls st z = some (st', z')) (hd : decode cc pc = .ok (i, ab_sz i)) (ho : o < 12) (hown : s.vm.findClass (ab_cn.getD o "") = some m.cls) (hts : ∀ w ∈ ab_wd, w.before args s = true) (hl : ab_has lc nL ad ls) (hK : va_K D vwCl (ab_ty3 cs) s) (hP : va_P D vwCl (ab_wl cs ad z) H) (hD : va_D A (ab_wl cs ad z)) (hS : va_S A H0 H locs) (hA : ∀ q, H0.size ≤ q → A q) (hce : cells + 1 ≤ R.cells) (hsl : slots + ab_wz z.2.2.2 ≤ R.slots)
    (k : ∀ (ad' : Nat → Nat) (H' : Heap), z'.2.2.2 = z.2.2.2 + 1 → (∀ k, (k < z.2.2.2 ∨ 999 ≤ k) → ad' k = ad k) → ab_has lc nL ad' ls → va_P D vwCl (ab_wl cs ad' z') H' → va_D A (ab_wl cs ad' z') → va_S A H0 H' locs → W p l e R s m args below meth c H' locs (cells + 1) (slots + ab_wz z.2.2.2) Q (F0 m (pc + ab_sz i) lc (st'.map (ab_v ad')))) : W p l e R s m args below meth c H locs cells slots Q (F0 m pc lc (st.map (ab_v ad))) := by
  unfold ab_nw at h
  split at h
  · split at h
    · rename_i t x st0 hc
      cases h
      obtain ⟨h0, h200, hly, hbd⟩ := hc
      simp only [ab_bd, Bool.and_eq_true] at hbd
      have h75 : z.2.2.2 < 75 := ab_ly75 (by rw [hly]; show ab_ak t ≠ 9; cases t <;> decide)
      have nn : ¬ x < 0 := by
        intro q
        rw [Int32.lt_iff_toInt_lt] at q
        have e0 : (0 : Int32).toInt = 0 := by decide
        omega
      have hcl : x.toNatClampNeg ≤ 200 := by rw [Int32.toNatClampNeg]; omega
      have main : ∀ (ty : FieldType) (cA0 : ClassId) (t0 : Nat) (a0 : vp_A), newarray.typeOf t = ty → Cond.arrayClass ty ∈ ab_wd → (ab_ty3 cs)[t0]? = some (cA0, ty) → (∀ cA : ClassId, vp_cell cA a0 = arrV cA x.toNatClampNeg (fun _ => defaultValue ty)) → (∀ U : State, ∀ c1 c2 : ClassId, va_RA U c1 ty → va_RA U c2 ty → c1 = c2) → x.toNatClampNeg * componentBytes ty ≤ 536870912 → (∀ ad' : Nat → Nat, ab_ce cs ad' (va_up z.1 z.2.2.2 (fun _ => 0), va_up z.2.1 z.2.2.2 (fun _ => 0), z.2.2.1, z.2.2.2 + 1) z.2.2.2 = .inl (cA0, a0)) → ab_wz z.2.2.2 = x.toNatClampNeg → W p l e R s m args below meth c H locs cells slots Q (F0 m pc lc (.int x :: st0.map (ab_v ad))) := by
        intro ty cA0 t0 a0 h1 h2 h3 h4 h5 h6 h7 h8
        rw [h8] at hsl
        refine va_newa hx hb (by rw [h1]; exact hts _ h2) h1 hK hP hD hS hA h4 nn rfl h6 hce hsl hd (fun q cA H1 hK1 hP1 hD1 hS1 => ?_)
        have e1 : cA = cA0 := h5 s cA cA0 (hK1.2 3 (cA, ty) rfl).2 (hK.2 t0 _ h3).2
        subst e1
        have hag : ∀ k, (k < z.2.2.2 ∨ 999 ≤ k) → va_up ad z.2.2.2 q k = ad k := fun k hk => va_up_n _ _ (by omega)
        have e2 : ab_wl cs (va_up ad z.2.2.2 q) (va_up z.1 z.2.2.2 (fun _ => 0), va_up z.2.1 z.2.2.2 (fun _ => 0), z.2.2.1, z.2.2.2 + 1) = ab_wl cs ad z ++ [(q, .inl (cA, a0))] := by
          rw [ab_wl_push (z := z) (z' := (va_up z.1 z.2.2.2 (fun _ => 0), va_up z.2.1 z.2.2.2 (fun _ => 0), z.2.2.1, z.2.2.2 + 1)) rfl (fun j hj => ab_ce_congr (va_up_n _ _ (Nat.ne_of_lt hj)) (va_up_n _ _ (Nat.ne_of_lt hj)) (fun _ => rfl)), ab_wl_n (fun k hk => hag k (Or.inl hk)) (Nat.le_refl _) hbd.2, h7, va_up_s]
        rw [← e2] at hP1 hD1
        have kk := k (va_up ad z.2.2.2 q) H1 rfl hag (ab_has_n hag hbd.1.1 hl) hP1 hD1 hS1
        rw [h8, List.map_cons, ab_vs_n hag hbd.1.2] at kk
        have e3 : ab_v (va_up ad z.2.2.2 q) (.ref z.2.2.2) = .ref q := by show Value.ref (va_up ad z.2.2.2 q z.2.2.2) = _; rw [va_up_s]
        rw [e3] at kk
        exact kk
      cases t with
      | int =>
        have hly : ab_ly z.2.2.2 = (1, x.toNatClampNeg) := hly
        exact main .int cs.1 0 (x.toNatClampNeg, .inl (fun _ => 0)) rfl (ab_oth (by simp)) rfl (fun _ => rfl) (fun U c1 c2 a b => Option.some.inj (a.symm.trans b)) (by show x.toNatClampNeg * 4 ≤ 536870912; omega) (fun ad' => by rw [ab_ce_int (by rw [hly]), hly]; show Sum.inl (_, _, Sum.inl (va_up z.1 z.2.2.2 _ z.2.2.2)) = _; rw [va_up_s]) (by simp [ab_wz, hly])
      | long =>
        have hly : ab_ly z.2.2.2 = (2, x.toNatClampNeg) := hly
        exact main .long cs.2.1 1 (x.toNatClampNeg, .inr (.inl (fun _ => 0))) rfl (ab_oth (by simp)) rfl (fun _ => rfl) (fun U c1 c2 a b => Option.some.inj (a.symm.trans b)) (by show x.toNatClampNeg * 8 ≤ 536870912; omega) (fun ad' => by rw [ab_ce_long (by rw [hly]), hly]; show Sum.inl (_, _, Sum.inr (Sum.inl (va_up z.2.1 z.2.2.2 _ z.2.2.2))) = _; rw [va_up_s]) (by simp [ab_wz, hly])
      | boolean =>
        have hly : ab_ly z.2.2.2 = (3, x.toNatClampNeg) := hly
        exact main .boolean cs.2.2 2 (x.toNatClampNeg, .inl (fun _ => 0)) rfl (ab_oth (by simp)) rfl (fun _ => rfl) (fun U c1 c2 a b => Option.some.inj (a.symm.trans b)) (by show x.toNatClampNeg * 1 ≤ 536870912; omega) (fun ad' => by rw [ab_ce_bool (by rw [hly]), hly]; show Sum.inl (_, _, Sum.inl (va_up z.1 z.2.2.2 _ z.2.2.2)) = _; rw [va_up_s]) (by simp [ab_wz, hly])
      | _ =>
        exfalso
        have : ∀ k, (ab_ly k).1 ≠ 8 := by
          intro k
          rcases Nat.lt_or_ge k 75 with q | q
          · have : ∀ k, k < 75 → (ab_ly k).1 ≠ 8 := by decide +kernel
            exact this k q
          · have e9 : ab_ly k = (9, 0) := by unfold ab_ly; rw [List.getD_eq_getElem?_getD, List.getElem?_eq_none (by exact q)]; rfl
            rw [e9]; decide
        exact this _ (by rw [hly]; rfl)
    · cases h
  · split at h
    · rename_i j st0 c0 q hnd
      split at h
      · rename_i hc
        cases h
        obtain ⟨hly, hlen, hbd⟩ := hc
        simp only [ab_bd, Bool.and_eq_true] at hbd
        have h75 : z.2.2.2 < 75 := ab_ly75 (by rw [hly]; show (0 : Nat) ≠ 9; decide)
        obtain ⟨⟨C, T, N⟩, hr, hw⟩ := ab_ndW ho hnd
        obtain ⟨ty, hty, hnm, hnf, hk3, hcn⟩ := ab_cf c0 _ hr
        dsimp only at hw hty hnm hnf hk3 hcn
        obtain ⟨w1, w2, w3⟩ := ab_cw hr
        have h8 : ab_wz z.2.2.2 = N := by simp [ab_wz, hly, hnf]
        rw [h8] at hsl
        have hfs : ∀ (ad' : Nat → Nat) (j : Nat), j < N → ab_fv c0 ad' (va_up z.1 z.2.2.2 (fun _ => 0), va_up z.2.1 z.2.2.2 (fun _ => 0), z.2.2.1.set z.2.2.2 (List.replicate 41 none), z.2.2.2 + 1) z.2.2.2 j = defaultValue (ty j) := by
          intro ad' j hj
          have hkk := hk3 j hj
          have hrn : ab_rf (z.2.2.1.set z.2.2.2 (List.replicate 41 none)) z.2.2.2 j = none := by
            have e1 : (z.2.2.1.set z.2.2.2 (List.replicate 41 (none : Option Nat))).getD z.2.2.2 [] = List.replicate 41 none := by
              rw [List.getD_eq_getElem?_getD, List.getElem?_set_self hlen]
              rfl
            unfold ab_rf
            rw [e1, List.getD_eq_getElem?_getD]
            cases hq : (List.replicate 41 (none : Option Nat))[j]? with
            | none => rfl
            | some o => rw [List.getElem?_replicate] at hq; split at hq <;> cases hq; rfl
          unfold ab_fv
          dsimp only
          rw [va_up_s, va_up_s, hrn]
          unfold ab_k3 at hkk
          split at hkk
          · rename_i h0
            simp only [Bool.and_eq_true, decide_eq_true_eq] at hkk
            rw [hkk.1, if_neg (by omega), if_neg (by omega)]; rfl
          · rename_i h0
            simp only [Bool.and_eq_true, decide_eq_true_eq] at hkk
            rw [hkk.1, if_neg (by omega), if_neg (by omega)]; rfl
          · rename_i h0
            simp only [Bool.and_eq_true, decide_eq_true_eq] at hkk
            rw [hkk.1, if_pos h0]; rfl
          · rename_i h0
            simp only [Bool.and_eq_true] at hkk
            rw [if_neg (by omega), if_pos h0]
            have h1 := hkk.1
            cases hq : ty j with
            | array t => rfl
            | object t => rfl
            | _ => rw [hq] at h1; cases h1
          · cases hkk
        refine va_new hx hb hts w1 ty hty hown (hts _ hw) (hts _ w2) (hts _ w3) hK hP hD hS hA hr (fs := ab_fs c0 ad (va_up z.1 z.2.2.2 (fun _ => 0), va_up z.2.1 z.2.2.2 (fun _ => 0), z.2.2.1.set z.2.2.2 (List.replicate 41 none), z.2.2.2 + 1) z.2.2.2) (fun j hj => ?_) hce hsl hd (fun q H1 hP1 hD1 hS1 => ?_)
        · unfold vp_V
          rw [List.getD_eq_getElem?_getD, ab_fs_at (hnf ▸ hj)]
          exact (hfs ad j hj).symm
        · have hag : ∀ k, (k < z.2.2.2 ∨ 999 ≤ k) → va_up ad z.2.2.2 q k = ad k := fun k hk => va_up_n _ _ (by omega)
          have e4 : ab_fs c0 (va_up ad z.2.2.2 q) (va_up z.1 z.2.2.2 (fun _ => 0), va_up z.2.1 z.2.2.2 (fun _ => 0), z.2.2.1.set z.2.2.2 (List.replicate 41 none), z.2.2.2 + 1) z.2.2.2 = ab_fs c0 ad (va_up z.1 z.2.2.2 (fun _ => 0), va_up z.2.1 z.2.2.2 (fun _ => 0), z.2.2.1.set z.2.2.2 (List.replicate 41 none), z.2.2.2 + 1) z.2.2.2 := List.map_congr_left (fun j hj => by rw [hfs _ j (hnf ▸ List.mem_range.mp hj), hfs _ j (hnf ▸ List.mem_range.mp hj)])
          have e2 : ab_wl cs (va_up ad z.2.2.2 q) (va_up z.1 z.2.2.2 (fun _ => 0), va_up z.2.1 z.2.2.2 (fun _ => 0), z.2.2.1.set z.2.2.2 (List.replicate 41 none), z.2.2.2 + 1) = ab_wl cs ad z ++ [(q, .inr (c0, ab_fs c0 ad (va_up z.1 z.2.2.2 (fun _ => 0), va_up z.2.1 z.2.2.2 (fun _ => 0), z.2.2.1.set z.2.2.2 (List.replicate 41 none), z.2.2.2 + 1) z.2.2.2))] := by
            rw [ab_wl_push (z := z) (z' := (va_up z.1 z.2.2.2 (fun _ => 0), va_up z.2.1 z.2.2.2 (fun _ => 0), z.2.2.1.set z.2.2.2 (List.replicate 41 none), z.2.2.2 + 1)) rfl (fun j hj => ab_ce_congr (va_up_n _ _ (Nat.ne_of_lt hj)) (va_up_n _ _ (Nat.ne_of_lt hj)) (fun f => by show ((z.2.2.1.set z.2.2.2 (List.replicate 41 (none : Option Nat))).getD j []).getD f none = _; have e5 : (z.2.2.1.set z.2.2.2 (List.replicate 41 (none : Option Nat))).getD j [] = z.2.2.1.getD j [] := by { rw [List.getD_eq_getElem?_getD, List.getElem?_set_ne (by omega), ← List.getD_eq_getElem?_getD] }; rw [e5]; rfl)), ab_wl_n (fun k hk => hag k (Or.inl hk)) (Nat.le_refl _) hbd.2, ab_ce_obj hly, e4, va_up_s]
          rw [← e2] at hP1 hD1
          have kk := k (va_up ad z.2.2.2 q) H1 rfl hag (ab_has_n hag hbd.1.1 hl) hP1 hD1 hS1
          rw [h8, List.map_cons, ab_vs_n hag hbd.1.2] at kk
          have e3 : ab_v (va_up ad z.2.2.2 q) (.ref z.2.2.2) = .ref q := by show Value.ref (va_up ad z.2.2.2 q z.2.2.2) = _; rw [va_up_s]
          rw [e3] at kk
          exact kk
      · cases h
    · cases h
  · cases h
end ABD
end
section
/-! SOUND, fourth: calls, and the whole -/
theorem ab_mkW {y : Nat} (h : y < 203) : (plainName (ab_row y).1.cls = true ∧ (ab_row y).1.cls ≠ "java/lang/invoke/MethodHandle" ∧ (ab_row y).1.cls ≠ "java/lang/invoke/VarHandle") ∧ Cond.code (ab_row y).1 (ab_row y).2.1 (ab_row y).2.2.1 (ab_row y).2.2.2.1 ∈ ab_wd ∧ Cond.initialized (ab_row y).1.cls ∈ ab_wd ∧
    ((ab_row y).2.2.2.2.2.1 = true → Cond.static (ab_row y).1 ∈ ab_wd) ∧ ((ab_row y).2.2.2.2.2.1 = false → Cond.instanceMethod (ab_row y).1 ∈ ab_wd ∧ ((ab_row y).1.name ≠ "<init>" → Cond.selects (ab_row y).1.cls (ab_row y).1 (ab_row y).1 ∈ ab_wd)) ∧
    ((parseMethodDescriptor (ab_row y).1.desc).map (fun d => d.parameters.length) = some (ab_row y).2.2.2.2.1) ∧ ab_cn.getD (ab_own y) "" = (ab_row y).1.cls ∧ (ab_row y).2.2.1 ≤ 20 ∧ 0 < (ab_row y).2.2.2.2.2.2.1 ∧ ab_own y < 11 ∧ ((ab_row y).1.name = "<init>" → (ab_row y).2.2.2.1 = none) ∧ ((ab_row y).2.2.2.2.2.1 = false → (vwCl[ab_own y]?).map (fun r => r.1) = some (ab_row y).1.cls) := by
  have hk := ab_mks h
  simp only [ab_mk, Bool.and_eq_true, decide_eq_true_eq] at hk
  obtain ⟨⟨⟨⟨⟨⟨⟨⟨⟨⟨⟨⟨⟨h1, h2⟩, h3⟩, h4⟩, h5⟩, h6⟩, h7⟩, h8⟩, h9⟩, h10⟩, h11⟩, h12⟩, h13⟩, h14⟩ := hk
  refine ⟨⟨h1, h2, h3⟩, ab_at_in h4, ab_at_in h5, fun q => ?_, fun q => ?_, h7, h8, h9, h11, h12, fun q => ?_, fun q => ?_⟩
  · rw [if_pos q] at h6
    exact ab_at_in h6
  · rw [if_neg (by rw [q]; decide)] at h6
    simp only [Bool.and_eq_true, Bool.or_eq_true] at h6
    refine ⟨ab_at_in h6.1, fun hn => ?_⟩
    rcases h6.2 with h | h
    · exact absurd (eq_of_beq h) hn
    · exact ab_at_in h
  · simp only [Bool.or_eq_true, decide_eq_true_eq] at h13
    rcases h13 with h | h
    · rw [q] at h
      exact absurd h (by decide)
    · exact h
  · simp only [Bool.or_eq_true, decide_eq_true_eq] at h14
    rcases h14 with h | h
    · rw [q] at h
      exact absurd h (by decide)
    · exact h
theorem ab_dcW {y pc : Nat} {i : Instr} (h : y < 203) (hi : ab_ins y pc = some i) : ∃ n, decode (ab_row y).2.1 pc = .ok (i, n) ∧ (n = ab_sz i ∨ ab_ts i = true) := by
  have h1 := List.all_eq_true.mp (show (ab_ct.getD y []).all (ab_dk (ab_row y).2.1) = true from ab_dcs h) _ (ab_look hi)
  unfold ab_dk at h1
  dsimp only at h1
  split at h1
  · rename_i i' n hd
    simp only [Bool.and_eq_true, Bool.or_eq_true, decide_eq_true_eq] at h1
    obtain ⟨rfl, h2⟩ := h1
    refine ⟨n, hd, ?_⟩
    rcases h2 with h | h
    · exact Or.inl (eq_of_beq h)
    · exact Or.inr h
  · cases h1
/-- the nest mates' links of all pools -/
def ab_N (U : State) : Prop := ∀ (o j t q : Nat), o < 12 → ab_md o j = some (t, 1, q) → t < 203 → va_Nw (.methodLinkNest (ab_cn.getD o "") j (ab_row t).1 "MarkedHands") U
theorem ab_N.warm {s U : State} (hW : s.WarmedH U.vm) (h : ab_N s) : ab_N U := fun o j t q ho hm ht => va_Nw.warmM hW (h o j t q ho hm ht)
theorem ab_N.same {u U : State} (h : u.vm = U.vm) (hN : ab_N u) : ab_N U := fun o j t q ho hm ht => va_Nw.same rfl h (hN o j t q ho hm ht)
def ab_ws (y : Nat) : List Cond := Cond.code (ab_row y).1 (ab_row y).2.1 (ab_row y).2.2.1 (ab_row y).2.2.2.1 :: ab_wd
theorem ab_pay {y : Nat} (hy : y < 203) {args : Array Value} {s : State} (hts : ∀ w ∈ ab_wd, w.before args s = true) : ∀ w ∈ ab_ws y, ∀ (a' : Array Value) (U : State), s.WarmedH U.vm → w.before a' U = true := by
  intro w hw a' U hW
  have hw' : w ∈ ab_wd := by
    rcases List.mem_cons.mp hw with h | h
    · rw [h]; exact (ab_mkW hy).2.1
    · exact h
  exact word_at hW (ab_wd_good hw') (hts w hw')
def ab_rk (y : Nat) : Nat := (ab_row y).2.2.2.2.2.2.1
def ab_rm (y a b : Nat) : Room := { frames := ab_rk y, cells := a, slots := b, locals := 64 * ab_rk y }
def ab_Pc (D : va_G) (cs : ab_C3) (ad : Nat → Nat) (as : List Value) (z : ab_S) (sz : Nat) : Array Value → State → Prop := va_Pc (as.map (ab_v ad)) (fun U => U.heap.size = sz ∧ va_P D vwCl (ab_wl cs ad z) U.heap ∧ va_K D vwCl (ab_ty3 cs) U ∧ va_D (fun _ => True) (ab_wl cs ad z) ∧ ab_N U)
def ab_Qc (D : va_G) (cs : ab_C3) (ad : Nat → Nat) (n : Nat) (v : Option Value) (z' : ab_S) (A : Nat → Prop) : Array Value → State → Outcome → State → Prop := fun _ st oc t => (∃ ad' : Nat → Nat, oc = .returned v ∧ (∀ k, (k < n ∨ 999 ≤ k) → ad' k = ad k) ∧ (z'.2.2.2 = n → ad' = ad) ∧ va_P D vwCl (ab_wl cs ad' z') t.heap ∧ va_D A (ab_wl cs ad' z')) ∧ va_F A st t
/-- the method y, at these arguments and this state, as a contract over the machine -/
def ab_Met (l : Launch) (D : va_G) (cs : ab_C3) (y : Nat) (as : List Value) (z : ab_S) (v : Option Value) (z' : ab_S) : Prop := ∀ (ad : Nat → Nat) (sz : Nat), Met l (ab_row y).1 (ab_ws y) (ab_rm y (z'.2.2.2 - z.2.2.2) (ab_sl z'.2.2.2 - ab_sl z.2.2.2)) (ab_Pc D cs ad as z sz) (ab_Qc D cs ad z.2.2.2 v z' (va_A (ab_wl cs ad z) sz)) (z'.2.2.2 - z.2.2.2) (ab_sl z'.2.2.2 - ab_sl z.2.2.2) (va_A (ab_wl cs ad z) sz)
section ABE
variable {p : Program} {l : Launch} {e : Env} {R : Room} {s : State} {m : MethodId} {args : Array Value} {below : List Frame} {meth : Method} {c : Code} {H : Heap} {locs : List Loc} {cells slots : Nat} {Q : State → Prop}
variable {cc : ByteArray} {pc : Nat} {lc : Array Slot} {ad : Nat → Nat} {nL : Nat} {D : va_G} {cs : ab_C3} {A A1 : Nat → Prop} {H0 : Heap}
theorem ab_after {mc ms n : Nat} {st0 rest : List Value} {v : Option Value} {z1 : ab_S} {a : Array Value} (hr : va_Run p l e R s m args below meth c H locs cells slots mc ms (F0 m pc lc st0) rest (ab_Qc D cs ad n v z1 A1 a) A1) (hS : va_S A H0 H locs) (hA1 : ∀ q, A1 q → A q)
    (kk : ∀ (ad' : Nat → Nat) (H1 : Heap) (locs1 : List Loc), (∀ k, (k < n ∨ 999 ≤ k) → ad' k = ad k) → (z1.2.2.2 = n → ad' = ad) → va_P D vwCl (ab_wl cs ad' z1) H1 → va_D A (ab_wl cs ad' z1) → va_S A H0 H1 locs1 → W p l e R s m args below meth c H1 locs1 (cells + mc) (slots + ms) Q (F0 m (pc + 3) lc (v.toList ++ rest))) : W p l e R s m args below meth c H locs cells slots Q (F0 m pc lc st0) := by
  intro T hT X
  obtain ⟨v', st₀, t, T', L, h0, X', hL, e1, e2, ⟨⟨ad', hv, ha1, ha2, hP1, hD1⟩, hz, hk⟩, st⟩ := hr T hT X
  cases hv
  rw [h0] at hz hk
  obtain ⟨t2, a1, b1⟩ := kk ad' T'.heap (locs ++ L) ha1 ha2 (by rw [e1]; exact hP1) (hD1.weaken (fun _ _ _ h => hA1 _ h))
    ⟨Nat.le_trans hS.1 (by rw [e1]; exact hz), fun q h1 h2 => by rw [e1, hk q (Nat.lt_of_lt_of_le h1 hS.1) (fun z => h2 (hA1 q z))]; exact hS.2.1 q h1 h2, fun q hq => by
      rcases List.mem_append.mp hq with h | h
      · exact hS.2.2 q h
      · exact hA1 _ (hL q h)⟩ T' rfl X'
  exact ⟨t2, st t2 a1, b1⟩
theorem ab_blind {as : List Value} {z : ab_S} {sz : Nat} : FrameBlind (ab_Pc D cs ad as z sz) := fun _ U g mk q => by
  obtain ⟨q0, q1, qP, qK, qD, qN⟩ := q
  exact ⟨q0, q1, qP, va_K.moved (u := U) (U := U.calling g mk _) (Vm.Alike.refl U.vm) qK, qD, ab_N.same (u := U) rfl qN⟩
theorem ab_pre {as : List Value} {z : ab_S} (hK : va_K D vwCl (ab_ty3 cs) s) (hN : ab_N s) (hP : va_P D vwCl (ab_wl cs ad z) H) (hD : va_D A (ab_wl cs ad z)) : ∀ U : State, U.heap = H → s.WarmedH U.vm → ab_Pc D cs ad as z H.size (as.map (ab_v ad)).toArray U :=
  fun U hU hW => ⟨rfl, by rw [hU], by rw [hU]; exact hP, va_K.moved hW.alike hK, hD.weaken (fun _ _ _ _ => trivial), hN.warm hW⟩
/-- a call, by the callee's contract -/
theorem ab_cl_W {y y' : Nat} {i : Instr} {st as rest : List Value} {z z1 : ab_S} {v : Option Value} (hy : y < 203) (hx : p.tables.exec = Jvm.exec) (hb : c.code = cc) (h : ab_cl y i z.2.2.2 st = some (y', as, rest)) (hd : decode cc pc = .ok (i, ab_sz i)) (hown : s.vm.findClass (ab_cn.getD (ab_own y) "") = some m.cls) (hml : c.maxLocals = nL) (hlc : lc.size = nL) (hts : ∀ w ∈ ab_wd, w.before args s = true) (hN : ab_N s) (hK : va_K D vwCl (ab_ty3 cs) s) (hP : va_P D vwCl (ab_wl cs ad z) H) (hD : va_D A (ab_wl cs ad z)) (hS : va_S A H0 H locs) (hA : ∀ q, H0.size ≤ q → A q)
    (hfr : R.frames = ab_rk y) (hlo : R.locals = 64 * ab_rk y) (hM : y' < 203 → ab_Met l D cs y' as z v z1) (hce : cells + (z1.2.2.2 - z.2.2.2) ≤ R.cells) (hsl : slots + (ab_sl z1.2.2.2 - ab_sl z.2.2.2) ≤ R.slots)
    (kk : ∀ (ad' : Nat → Nat) (H1 : Heap) (locs1 : List Loc), (∀ k, (k < z.2.2.2 ∨ 999 ≤ k) → ad' k = ad k) → (z1.2.2.2 = z.2.2.2 → ad' = ad) → va_P D vwCl (ab_wl cs ad' z1) H1 → va_D A (ab_wl cs ad' z1) → va_S A H0 H1 locs1 → W p l e R s m args below meth c H1 locs1 (cells + (z1.2.2.2 - z.2.2.2)) (slots + (ab_sl z1.2.2.2 - ab_sl z.2.2.2)) Q (F0 m (pc + 3) lc (v.toList ++ rest.map (ab_v ad)))) :
    W p l e R s m args below meth c H locs cells slots Q (F0 m pc lc (st.map (ab_v ad))) := by
  have hoy := (ab_mkW hy).2.2.2.2.2.2.2.2.2.1
  have ho : ab_own y < 12 := by omega
  have hA1 : ∀ q, va_A (ab_wl cs ad z) H.size q → A q := by
    intro q hq
    rcases hq with ⟨k, e, hk⟩ | hq
    · exact hD.2 k (q, e) hk
    · exact hA q (Nat.le_trans hS.1 hq)
  have common : ∀ {kd j : Nat}, ab_go y kd j z.2.2.2 st = some (y', as, rest) → y' < 203 ∧ ∃ nest : Nat, ab_gd kd y y' nest z.2.2.2 as rest = true ∧ st = as.reverse ++ rest ∧ (nest = 0 → (Cond.methodLink (ab_cn.getD (ab_own y) "") j (ab_row y').1).before args s = true) ∧ (¬ nest = 0 → va_Nw (.methodLinkNest (ab_cn.getD (ab_own y) "") j (ab_row y').1 "MarkedHands") s) := by
    intro kd j hg
    unfold ab_go at hg
    split at hg
    · rename_i t nest q hmd
      split at hg
      · rename_i y1 hto
        split at hg
        · rename_i hc
          cases hg
          have hw := ab_mdW ho hmd
          have ht : t < 1000 := hc.1
          rw [if_neg (by omega), if_neg (by omega), if_neg (by omega), if_neg (by omega)] at hw
          simp only [Bool.and_eq_true, decide_eq_true_eq] at hw
          have hrow : y' < 203 ∧ (ab_row t).1 = (ab_row y').1 := by
            unfold ab_to at hto
            split at hto
            · rename_i h4
              subst h4
              split at hto
              · rename_i hh
                cases hto
                refine ⟨by omega, ?_⟩
                have := ab_dl (y - 3) (by omega)
                rw [show 4 + (y - 3) = y + 1 by omega] at this
                exact this.symm
              · split at hto
                · cases hto
                · cases hto
                  exact ⟨by omega, rfl⟩
            · cases hto
              exact ⟨hw.1, rfl⟩
          refine ⟨hrow.1, nest, hc.2, ?_, fun hn => ?_, fun hn => ?_⟩
          · rw [List.reverse_reverse, List.take_append_drop]
          · have h2 := hw.2
            rw [if_pos hn] at h2
            rw [← hrow.2]
            exact hts _ (ab_at_in h2)
          · have h2 := hw.2
            rw [if_neg hn] at h2
            simp only [decide_eq_true_eq] at h2
            rw [← hrow.2]
            have hmd' := hmd
            rw [h2.1] at hmd'
            exact hN _ _ _ _ ho hmd' hw.1
        · cases hg
      · cases hg
    · cases hg
  have gd : ∀ {kd nest : Nat}, ab_gd kd y y' nest z.2.2.2 as rest = true → as.length = (ab_row y').2.2.2.2.1 + (if kd = 1 then 0 else 1) ∧ ab_rk y' < ab_rk y ∧ (rest.map (fun v => v.category)).sum ≤ 8 ∧ ((ab_row y').2.2.2.2.2.1 = (kd == 1)) ∧ (((ab_row y').1.name == "<init>") = (kd == 2)) ∧ (kd = 1 ∨ ab_rc (ab_own y') z.2.2.2 as = true) ∧ (kd = 0 → nest = 0) ∧ (ab_ea as).length ≤ (ab_row y').2.2.1 := by
    intro kd nest hg
    simp only [ab_gd, Bool.and_eq_true, decide_eq_true_eq, Bool.or_eq_true, beq_iff_eq, bne_iff_ne, ne_eq] at hg
    obtain ⟨⟨⟨⟨⟨⟨⟨g1, g2⟩, g3⟩, g4⟩, g5⟩, g6⟩, g7⟩, g8⟩ := hg
    exact ⟨g1, g2, g3, g4, g5, g6, fun hk => by rcases g7 with h | h; exact absurd hk h; exact h, g8⟩
  have h8 : (rest.map (fun v => v.category)).sum ≤ 8 → 2 * (F0 m pc lc (st.map (ab_v ad))).monitorRoom + ((rest.map (ab_v ad)).map (fun v => v.category)).sum ≤ 8 := fun h => lv_room (by rw [ab_v_cats]; exact h)
  have cbB : y' < 203 → ab_rk y' < ab_rk y → ∀ {n j : Nat}, n = (ab_row y').2.2.2.2.1 → (Cond.methodLink (ab_cn.getD (ab_own y) "") j (ab_row y').1).before args s = true → CallB R s args (ab_cn.getD (ab_own y) "") j (ab_row y').1 (ab_row y').2.1 (ab_row y').2.2.1 (ab_row y').2.2.2.1 (ab_ws y') (ab_rm y' (z1.2.2.2 - z.2.2.2) (ab_sl z1.2.2.2 - ab_sl z.2.2.2)) (z1.2.2.2 - z.2.2.2) (ab_sl z1.2.2.2 - ab_sl z.2.2.2) n := by
    intro hy' hrk n j hn hl
    obtain ⟨w1, w2, w3, w4, w5, w6, w7, w8, w9, w10, w11, w12⟩ := ab_mkW hy'
    refine ⟨rfl, rfl, ?_, ?_, ab_pay hy' hts, List.mem_cons_self, hts _ w2, hts _ w3, ⟨w1.2.1, w1.2.2⟩, fun sig hs => ?_, hl⟩
    · show ab_rk y' + 1 ≤ R.frames
      omega
    · show 8 + ((ab_row y').2.2.1 + 11) + 64 * ab_rk y' ≤ R.locals
      omega
    · rw [hs] at w6
      exact hn.trans (Option.some.inj w6).symm
  have cbN : y' < 203 → ab_rk y' < ab_rk y → ∀ {n j : Nat}, n = (ab_row y').2.2.2.2.1 → va_Nw (.methodLinkNest (ab_cn.getD (ab_own y) "") j (ab_row y').1 "MarkedHands") s → va_CN R s args (ab_cn.getD (ab_own y) "") j (ab_row y').1 "MarkedHands" (ab_row y').2.1 (ab_row y').2.2.1 (ab_row y').2.2.2.1 (ab_ws y') (ab_rm y' (z1.2.2.2 - z.2.2.2) (ab_sl z1.2.2.2 - ab_sl z.2.2.2)) (z1.2.2.2 - z.2.2.2) (ab_sl z1.2.2.2 - ab_sl z.2.2.2) n := by
    intro hy' hrk n j hn hl
    obtain ⟨w1, w2, w3, w4, w5, w6, w7, w8, w9, w10, w11, w12⟩ := ab_mkW hy'
    refine ⟨⟨rfl, rfl, ?_, ?_, ab_pay hy' hts, List.mem_cons_self⟩, hts _ w2, hts _ w3, ⟨w1.2.1, w1.2.2⟩, fun sig hs => ?_, va_Nw.use rfl hl⟩
    · show ab_rk y' + 1 ≤ R.frames
      omega
    · show 8 + ((ab_row y').2.2.1 + 11) + 64 * ab_rk y' ≤ R.locals
      omega
    · rw [hs] at w6
      exact hn.trans (Option.some.inj w6).symm
  have rc : ab_rc (ab_own y') z.2.2.2 as = true → ∃ (k : Nat) (as' : List Value), as = .ref k :: as' ∧ ab_ly k = (0, ab_own y') ∧ k < z.2.2.2 := by
    intro h
    cases hq : as with
    | nil => rw [hq] at h; cases h
    | cons v as' =>
      rw [hq] at h
      cases v with
      | ref k =>
        have h2 : (ab_ly k == (0, ab_own y') && decide (k < z.2.2.2)) = true := h
        rw [Bool.and_eq_true, beq_iff_eq, decide_eq_true_eq] at h2
        exact ⟨k, as', rfl, h2.1, h2.2⟩
      | _ => cases h
  unfold ab_cl at h
  split at h
  · rename_i j
    obtain ⟨hy', nest, hg, hst, hl0, hl1⟩ := common h
    obtain ⟨g1, g2, g3, g4, g5, g6, g7, g8⟩ := gd hg
    obtain ⟨k0, as', rfl, hly, hk0⟩ := rc (by rcases g6 with q | q; exact absurd q (by decide); exact q)
    obtain ⟨w1, w2, w3, w4, w5, w6, w7, w8, w9, w10, w11, w12⟩ := ab_mkW hy'
    have hst0 : (ab_row y').2.2.2.2.2.1 = false := by rw [g4]; rfl
    have hnm : (ab_row y').1.name ≠ "<init>" := fun q => by rw [q] at g5; exact absurd g5 (by decide)
    have hcl : vwCl[ab_own y']? = some ((vwCl[ab_own y']?).getD ("", fun _ => ("", "", "", false), 0)) ∧ ((vwCl[ab_own y']?).getD ("", fun _ => ("", "", "", false), 0)).1 = (ab_row y').1.cls := by
      have := w12 hst0
      cases hq : vwCl[ab_own y']? with
      | none => rw [hq] at this; cases this
      | some r => rw [hq] at this; exact ⟨rfl, Option.some.inj this⟩
    have he := ab_wl_at (cs := cs) (ad := ad) hk0
    rw [ab_ce_obj hly] at he
    have hrec := va_recv hK hP hcl.1 he
    rw [hcl.2] at hrec
    have hn : (as'.map (ab_v ad)).length = (ab_row y').2.2.2.2.1 := by
      rw [List.length_map]
      have : as'.length + 1 = (ab_row y').2.2.2.2.1 + 1 := g1
      omega
    exact ab_after (va_runV (As := as'.map (ab_v ad)) (rest := rest.map (ab_v ad)) ⟨hx, hb, hml, hown, hts⟩ (hM hy' ad H.size) ⟨cbB hy' g2 rfl (hl0 (g7 rfl)), hts _ (w5 hst0).1, hts _ ((w5 hst0).2 hnm)⟩ ⟨ab_blind, hrec, ab_pre hK hN hP hD⟩ rfl hn hlc (by rw [hst]; simp [ab_v]) (h8 g3) hd ⟨hce, hsl⟩) hS hA1 kk
  · rename_i j
    obtain ⟨hy', nest, hg, hst, hl0, hl1⟩ := common h
    obtain ⟨g1, g2, g3, g4, g5, g6, g7, g8⟩ := gd hg
    obtain ⟨w1, w2, w3, w4, w5, w6, w7, w8, w9, w10, w11, w12⟩ := ab_mkW hy'
    have hst0 : (ab_row y').2.2.2.2.2.1 = true := by rw [g4]; rfl
    have hn : (as.map (ab_v ad)).length = (ab_row y').2.2.2.2.1 := by
      rw [List.length_map]
      exact g1
    by_cases hne : nest = 0
    · exact ab_after (va_runS (As := as.map (ab_v ad)) (rest := rest.map (ab_v ad)) ⟨hx, hb, hml, hown, hts⟩ (hM hy' ad H.size) ⟨cbB hy' g2 rfl (hl0 hne), hts _ (w4 hst0)⟩ ⟨ab_blind, ab_pre hK hN hP hD⟩ rfl hn hlc (by rw [hst]; simp) (h8 g3) hd ⟨hce, hsl⟩) hS hA1 kk
    · exact ab_after (va_runSN (As := as.map (ab_v ad)) (rest := rest.map (ab_v ad)) ⟨hx, hb, hml, hown, hts⟩ (hM hy' ad H.size) ⟨cbN hy' g2 rfl (hl1 hne), hts _ (w4 hst0), trivial⟩ ⟨ab_blind, ab_pre hK hN hP hD⟩ rfl hn hlc (by rw [hst]; simp) (h8 g3) hd ⟨hce, hsl⟩) hS hA1 kk
  · rename_i j
    obtain ⟨hy', nest, hg, hst, hl0, hl1⟩ := common h
    obtain ⟨g1, g2, g3, g4, g5, g6, g7, g8⟩ := gd hg
    obtain ⟨k0, as', rfl, hly, hk0⟩ := rc (by rcases g6 with q | q; exact absurd q (by decide); exact q)
    obtain ⟨w1, w2, w3, w4, w5, w6, w7, w8, w9, w10, w11, w12⟩ := ab_mkW hy'
    have hst0 : (ab_row y').2.2.2.2.2.1 = false := by rw [g4]; rfl
    have hnm : (ab_row y').1.name = "<init>" := eq_of_beq (by rw [g5]; rfl)
    have hn : (as'.map (ab_v ad)).length = (ab_row y').2.2.2.2.1 := by
      rw [List.length_map]
      have : as'.length + 1 = (ab_row y').2.2.2.2.1 + 1 := g1
      omega
    have hrn := w11 hnm
    by_cases hne : nest = 0
    · have cb := cbB hy' g2 rfl (hl0 hne)
      rw [hrn] at cb
      exact ab_after (va_runI (b := ad k0) (As := as'.map (ab_v ad)) (rest := rest.map (ab_v ad)) ⟨hx, hb, hml, hown, hts⟩ (hM hy' ad H.size) ⟨cb, hnm, hts _ (w5 hst0).1⟩ ⟨ab_blind, ab_pre hK hN hP hD⟩ rfl hn hlc (by rw [hst]; simp [ab_v]) (h8 g3) hd ⟨hce, hsl⟩) hS hA1 kk
    · have cb := cbN hy' g2 rfl (hl1 hne)
      rw [hrn] at cb
      exact ab_after (va_runIN (b := ad k0) (As := as'.map (ab_v ad)) (rest := rest.map (ab_v ad)) ⟨hx, hb, hml, hown, hts⟩ (hM hy' ad H.size) ⟨cb, hnm, hts _ (w5 hst0).1⟩ ⟨ab_blind, ab_pre hK hN hP hD⟩ rfl hn hlc (by rw [hst]; simp [ab_v]) (h8 g3) hd ⟨hce, hsl⟩) hS hA1 kk
  · cases h
end ABE
end
section
/-! SOUND: the whole -/
theorem ab_ea_len : ∀ (ad : Nat → Nat) (as : List Value), (lg_sl (as.map (ab_v ad))).length = (ab_ea as).length
  | _, [] => rfl
  | ad, v :: r => by
    have ih := ab_ea_len ad r
    show (lg_sl (ab_v ad v :: r.map (ab_v ad))).length = _
    unfold lg_sl at ih ⊢
    rw [List.flatMap_cons, List.length_append, ih, show ab_ea (v :: r) = if v.category = 2 then some v :: none :: ab_ea r else some v :: ab_ea r from rfl, ab_v_cat]
    split <;> simp <;> omega
theorem ab_ea_get : ∀ (ad : Nat → Nat) (as : List Value) (i : Nat) (v : Value), (ab_ea as)[i]? = some (some v) → (lg_sl (as.map (ab_v ad)))[i]? = some (.val (ab_v ad v))
  | _, [], i, v, h => by simp [ab_ea] at h
  | ad, w :: r, i, v, h => by
    have ih := ab_ea_get ad r
    show (lg_sl (ab_v ad w :: r.map (ab_v ad)))[i]? = _
    unfold lg_sl at ih ⊢
    rw [List.flatMap_cons, ab_v_cat]
    rw [show ab_ea (w :: r) = if w.category = 2 then some w :: none :: ab_ea r else some w :: ab_ea r from rfl] at h
    split at h
    · rename_i h2
      rw [if_pos h2]
      match i, h with
      | 0, h => cases h; rfl
      | 1, h => cases h
      | i + 2, h => exact ih i v h
    · rename_i h2
      rw [if_neg h2]
      match i, h with
      | 0, h => cases h; rfl
      | i + 1, h => exact ih i v h
theorem ab_en_has (ad : Nat → Nat) (as : List Value) {n : Nat} (h : (ab_ea as).length ≤ n) : ab_has ((lg_sl (as.map (ab_v ad)) ++ List.replicate (n - (lg_sl (as.map (ab_v ad))).length) Slot.unset).toArray) n ad (ab_en n as) := by
  have h1 := lv_entry (as.map (ab_v ad)) (n := n) (by rw [ab_ea_len]; exact h)
  refine ⟨h1.1, h1.2.1, by simp [ab_en]; omega, fun i v hv => ?_⟩
  have hi : (ab_ea as)[i]? = some (some v) := by
    unfold ab_en at hv
    rw [List.getD_eq_getElem?_getD, List.getElem?_append] at hv
    split at hv
    · cases hq : (ab_ea as)[i]? with
      | none => rw [hq] at hv; cases hv
      | some w => rw [hq] at hv; exact congrArg some hv
    · rw [List.getElem?_replicate] at hv
      split at hv <;> cases hv
  have := ab_ea_get ad as i v hi
  rw [List.getElem?_toArray, List.getElem?_append_left ((List.getElem?_eq_some_iff.mp this).1)]
  exact this
theorem ab_he_n {o : Nat} {b : Bool} {i : Instr} {st st' : List Value} {z z' : ab_S} (h : ab_he o b i st z = some (st', z')) : z'.2.2.2 = z.2.2.2 := by
  unfold ab_he at h
  split at h
  all_goals first
    | (rw [Option.map_eq_some_iff] at h; obtain ⟨_, _, h2⟩ := h; cases h2; rfl)
    | (repeat' split at h) <;> first | (cases h; rfl) | (cases h)
theorem ab_nw_n {o : Nat} {i : Instr} {ls : ab_L} {st st' : List Value} {z z' : ab_S} (h : ab_nw o i ls st z = some (st', z')) : z'.2.2.2 = z.2.2.2 + 1 := by
  unfold ab_nw at h
  split at h
  all_goals (repeat' split at h) <;> first | (cases h; rfl) | (cases h)
theorem ab_ex_n {o : Nat} {b : Bool} {i : Instr} {pc : Nat} {ls : ab_L} {st : List Value} {z : ab_S} {q : Nat × ab_L × List Value × ab_S} (h : ab_ex o b i pc ls st z = some q) : z.2.2.2 ≤ q.2.2.2.2.2.2 := by
  unfold ab_ex at h
  split at h
  · cases h; exact Nat.le_refl _
  · split at h
    · cases h; exact Nat.le_refl _
    · split at h
      · split at h
        · cases h; exact Nat.le_refl _
        · cases h
      · split at h
        · rename_i hq; cases h; exact Nat.le_of_eq (ab_he_n hq).symm
        · split at h
          · rename_i hq; cases h; rw [ab_nw_n hq]; exact Nat.le_succ _
          · cases h
theorem ab_run_n : ∀ (n y pc : Nat) (ls : ab_L) (st : List Value) (z : ab_S) (v : Option Value) (z' : ab_S), ab_run n y pc ls st z = some (v, z') → z.2.2.2 ≤ z'.2.2.2
  | 0, _, _, _, _, _, _, _, h => by cases h
  | n + 1, y, pc, ls, st, z, v, z', h => by
    unfold ab_run at h
    split at h
    · cases h
    · split at h
      · cases h; exact Nat.le_refl _
      · split at h
        · rw [Option.bind_eq_some_iff] at h
          obtain ⟨r, h1, h2⟩ := h
          split at h2
          · exact Nat.le_trans (ab_run_n n _ _ _ _ _ r.1 r.2 h1) (ab_run_n n _ _ _ _ _ _ _ h2)
          · cases h2
        · rw [Option.bind_eq_some_iff] at h
          obtain ⟨q, h1, h2⟩ := h
          exact Nat.le_trans (ab_ex_n h1) (ab_run_n n _ _ _ _ _ _ _ h2)
theorem ab_run_v : ∀ (n y pc : Nat) (ls : ab_L) (st : List Value) (z : ab_S) (v : Value) (z' : ab_S), ab_run n y pc ls st z = some (some v, z') → ∀ k, v ≠ .ref k
  | 0, _, _, _, _, _, _, _, h => by cases h
  | n + 1, y, pc, ls, st, z, v, z', h => by
    unfold ab_run at h
    split at h
    · cases h
    · split at h
      · rename_i v0 hrt
        cases h
        unfold ab_rt at hrt
        split at hrt
        · split at hrt
          · cases hrt; exact fun k q => by cases q
          · split at hrt
            · cases hrt; exact fun k q => by cases q
            · cases hrt
          · cases hrt
        · split at hrt
          · cases hrt; exact fun k q => by cases q
          · cases hrt
        · split at hrt <;> cases hrt
        · cases hrt
      · split at h
        · rw [Option.bind_eq_some_iff] at h
          obtain ⟨r, h1, h2⟩ := h
          split at h2
          · exact ab_run_v n _ _ _ _ _ _ _ h2
          · cases h2
        · rw [Option.bind_eq_some_iff] at h
          obtain ⟨q, h1, h2⟩ := h
          exact ab_run_v n _ _ _ _ _ _ _ h2
set_option maxHeartbeats 8000000 in
theorem ab_sound (l : Launch) (D : va_G) (cs : ab_C3) : ∀ (n y pc : Nat) (ls : ab_L) (st : List Value) (z : ab_S) (v : Option Value) (z' : ab_S), y < 203 → ab_run n y pc ls st z = some (v, z') →
    ∀ {p : Program} {e : Env} {s : State} {m : MethodId} {args : Array Value} {below : List Frame} {meth : Method} {c : Code} {H : Heap} {locs : List Loc} {lc : Array Slot} {ad ad0 : Nat → Nat} {z0 : ab_S} {A : Nat → Prop},
    p.tables.exec = Jvm.exec → c.code = (ab_row y).2.1 → meth.sig.returnType = (ab_row y).2.2.2.1 → meth.locks = false → c.maxLocals = (ab_row y).2.2.1 → s.vm.findClass (ab_row y).1.cls = some m.cls → meth.name = (ab_row y).1.name → (∀ w ∈ ab_wd, w.before args s = true) → ab_N s → va_K D vwCl (ab_ty3 cs) s →
    z0.2.2.2 ≤ z.2.2.2 → (∀ k, (k < z0.2.2.2 ∨ 999 ≤ k) → ad k = ad0 k) → (z.2.2.2 = z0.2.2.2 → ad = ad0) → ab_has lc (ab_row y).2.2.1 ad ls → va_P D vwCl (ab_wl cs ad z) H → va_D A (ab_wl cs ad z) → va_S A s.heap H locs → (∀ q, s.heap.size ≤ q → A q) →
    W p l e (ab_rm y (z'.2.2.2 - z0.2.2.2) (ab_sl z'.2.2.2 - ab_sl z0.2.2.2)) s m args below meth c H locs (z.2.2.2 - z0.2.2.2) (ab_sl z.2.2.2 - ab_sl z0.2.2.2) (MQ below (ab_Qc D cs ad0 z0.2.2.2 v z' A) args s (z'.2.2.2 - z0.2.2.2) (ab_sl z'.2.2.2 - ab_sl z0.2.2.2) A) (F0 m pc lc (st.map (ab_v ad)))
  | 0, _, _, _, _, _, _, _, _, h => by cases h
  | n + 1, y, pc, ls, st, z, v, z', hy, h => by
    rename_i p e s m args below meth c H locs lc ad ad0 z0 A
    intro hx hb hr hlocks hml hown hname hts hN hK hn0 hag hsame hl hP hD hS hA
    obtain ⟨w1, w2, w3, w4, w5, w6, w7, w8, w9, w10, w11, w12⟩ := ab_mkW hy
    unfold ab_run at h
    split at h
    · cases h
    · rename_i i hi
      obtain ⟨len, hd, hlen⟩ := ab_dcW hy hi
      have fin : ∀ (t : State), t.heap = H → z = z' → ab_Qc D cs ad0 z0.2.2.2 v z' A args s (.returned v) t := by
        intro t ht hz
        subst hz
        exact ⟨⟨ad, rfl, hag, hsame, by rw [ht]; exact hP, hD⟩, hS.F ht⟩
      split at h
      · rename_i v0 hrt
        cases h
        unfold ab_rt at hrt
        split at hrt
        · split at hrt
          · rename_i hret
            cases hrt
            rcases hlen with rfl | hlen
            · exact W.iret hx hb (by rw [hr, hret]) (fun t ht hW => fin t ht rfl) hS.2.2 hd hlocks
            · cases hlen
          · rename_i hret
            split at hrt
            · rename_i h01
              cases hrt
              rcases hlen with rfl | hlen
              · exact W.zret hx hb (by rw [hr, hret]) (ab_nar h01).2.1 (fun t ht hW => fin t ht rfl) hS.2.2 hd hlocks
              · cases hlen
            · cases hrt
          · cases hrt
        · split at hrt
          · rename_i hret
            cases hrt
            rcases hlen with rfl | hlen
            · exact W.lret hx hb (by rw [hr, hret]) (fun t ht hW => fin t ht rfl) hS.2.2 hd hlocks
            · cases hlen
          · cases hrt
        · split at hrt
          · rename_i hret
            cases hrt
            rcases hlen with rfl | hlen
            · exact W.vret hx hb (by rw [hr, hret]) (fun t ht hW => fin t ht rfl) hS.2.2 hd hlocks
            · cases hlen
          · cases hrt
        · cases hrt
      · split at h
        · rename_i y' as rest hcl
          rw [Option.bind_eq_some_iff] at h
          obtain ⟨⟨v1, z1⟩, h1, h2⟩ := h
          split at h2
          · rename_i hbd
            have hmono1 := ab_run_n n _ _ _ _ _ _ _ h1
            have hmono2 := ab_run_n n _ _ _ _ _ _ _ h2
            dsimp only at hmono1 hmono2 hbd h2
            have hs1 := ab_sl_le hmono1
            have hs2 := ab_sl_le hmono2
            have hs0 := ab_sl_le hn0
            have hlen3 : len = ab_sz i := by
              rcases hlen with q | q
              · exact q
              · unfold ab_cl at hcl
                split at hcl <;> first | (cases q) | (cases hcl)
            have hM : y' < 203 → (ab_ea as).length ≤ (ab_row y').2.2.1 → ab_Met l D cs y' as z v1 z1 := by
              intro hy' hea ad1 sz
              obtain ⟨x1, x2, x3, x4, x5, x6, x7, x8, x9, x10, x11, x12⟩ := ab_mkW hy'
              refine Met.ofW (cc := (ab_row y').2.1) (maxL := (ab_row y').2.2.1) (ret := (ab_row y').2.2.2.1) (ws' := ab_wd) x1.1 rfl ?_
              intro p e s m args below meth c s₁ B hml hv
              obtain ⟨rfl, hsz, hP1, hK1, hD1, hN1⟩ := hv
              subst hsz
              have hts1 := atoms_spec (ws := ab_ws y') B.pre
              rw [lg_entry_eq]
              have key := ab_sound l D cs n y' 0 _ [] z v1 z1 hy' h1 (p := p) (e := e) (s := s) (m := m) (args := (as.map (ab_v ad1)).toArray) (below := below) (meth := meth) (c := c) (H := s.heap) (locs := []) (lc := ((lg_sl (as.map (ab_v ad1)) ++ List.replicate ((ab_row y').2.2.1 - (lg_sl (as.map (ab_v ad1))).length) Slot.unset).toArray)) (ad := ad1) (ad0 := ad1) (z0 := z) (A := va_A (ab_wl cs ad1 z) s.heap.size) B.exec B.bytes B.returns B.notSynchronized hml (findClass_of_methodNamed B.named) (name_of_methodNamed B.named B.method).1 (fun w hw => hts1 w (List.mem_cons_of_mem _ hw)) hN1 hK1 (Nat.le_refl _) (fun _ _ => rfl) (fun _ => rfl) (ab_en_has ad1 as hea) hP1 hD1.self va_S.rf (fun q hq => Or.inr hq)
              rw [Nat.sub_self, Nat.sub_self] at key
              exact key
            have hea : (ab_ea as).length ≤ (ab_row y').2.2.1 := by
              unfold ab_cl at hcl
              have aux : ∀ {kd j : Nat}, ab_go y kd j z.2.2.2 st = some (y', as, rest) → (ab_ea as).length ≤ (ab_row y').2.2.1 := by
                intro kd j hg
                unfold ab_go at hg
                split at hg
                · split at hg
                  · split at hg
                    · rename_i hc
                      cases hg
                      have := hc.2
                      simp only [ab_gd, Bool.and_eq_true, decide_eq_true_eq] at this
                      exact this.2
                    · cases hg
                  · cases hg
                · cases hg
              split at hcl <;> first | exact aux hcl | cases hcl
            refine ab_cl_W hy hx hb hcl (hlen3 ▸ hd) (by rw [w7]; exact hown) hml hl.1 hts hN hK hP hD hS hA rfl rfl (fun q => hM q hea) (by show _ ≤ z'.2.2.2 - z0.2.2.2; omega) (by show _ ≤ ab_sl z'.2.2.2 - ab_sl z0.2.2.2; omega) (fun ad' H1 locs1 ha1 ha2 hP1 hD1 hS1 => ?_)
            have hv1 : ∀ v2, v1 = some v2 → ∀ k, v2 ≠ .ref k := fun v2 e2 => ab_run_v n _ _ _ _ _ v2 _ (e2 ▸ h1)
            have el : ab_has lc (ab_row y).2.2.1 ad' ls ∧ (v1.toList ++ rest.map (ab_v ad)) = (v1.toList ++ rest).map (ab_v ad') := by
              have e0 : v1.toList.map (ab_v ad') = v1.toList := by
                cases v1 with
                | none => rfl
                | some v2 =>
                  have := hv1 v2 rfl
                  cases v2 with
                  | ref k => exact absurd rfl (this k)
                  | _ => rfl
              unfold ab_cb at hbd
              split at hbd
              · simp only [ab_bd, Bool.and_eq_true] at hbd
                exact ⟨ab_has_n ha1 hbd.1.1 hl, by rw [List.map_append, e0, ab_vs_n ha1 hbd.1.2]⟩
              · have q : z1.2.2.2 = z.2.2.2 := by rw [of_decide_eq_true hbd]
                rw [ha2 q] at e0 ⊢
                exact ⟨hl, by rw [List.map_append, e0]⟩
            rw [el.2, show z.2.2.2 - z0.2.2.2 + (z1.2.2.2 - z.2.2.2) = z1.2.2.2 - z0.2.2.2 by omega, show ab_sl z.2.2.2 - ab_sl z0.2.2.2 + (ab_sl z1.2.2.2 - ab_sl z.2.2.2) = ab_sl z1.2.2.2 - ab_sl z0.2.2.2 by omega]
            exact ab_sound l D cs n y (pc + 3) ls _ z1 v z' hy h2 hx hb hr hlocks hml hown hname hts hN hK (by omega) (fun k hk => (ha1 k (by omega)).trans (hag k hk)) (fun hq => by rw [ha2 (by omega)]; exact hsame (by omega)) el.1 hP1 hD1 hS1 hA
          · cases h2
        · rw [Option.bind_eq_some_iff] at h
          obtain ⟨⟨pc', ls', st', z1⟩, h1, h2⟩ := h
          have hmono1 := ab_ex_n h1
          have hmono2 := ab_run_n n _ _ _ _ _ _ _ h2
          dsimp only at hmono1 hmono2 h2
          have hs1 := ab_sl_le hmono1
          have hs2 := ab_sl_le hmono2
          have hs0 := ab_sl_le hn0
          have ho : ab_own y < 12 := by omega
          have hfr : 1 ≤ (ab_rm y (z'.2.2.2 - z0.2.2.2) (ab_sl z'.2.2.2 - ab_sl z0.2.2.2)).frames := w9
          have hlo : 64 ≤ (ab_rm y (z'.2.2.2 - z0.2.2.2) (ab_sl z'.2.2.2 - ab_sl z0.2.2.2)).locals := by
            show 64 ≤ 64 * ab_rk y
            have : 0 < ab_rk y := w9
            omega
          unfold ab_ex at h1
          split at h1
          · rename_i st1 hop
            cases h1
            have hsz : len = ab_sz i := by
              rcases hlen with q | q
              · exact q
              · cases i <;> first | (cases q; done) | (simp [ab_op] at hop)
            exact ab_op_W hx hb hop (hsz ▸ hd) (ab_sound l D cs n y _ ls _ z v z' hy h2 hx hb hr hlocks hml hown hname hts hN hK hn0 hag hsame hl hP hD hS hA)
          · split at h1
            · rename_i ls1 st1 hlo1
              cases h1
              have hsz : len = ab_sz i := by
                rcases hlen with q | q
                · exact q
                · cases i <;> first | (cases q; done) | (simp [ab_lo] at hlo1)
              exact ab_lo_W hx hb hlo1 (hsz ▸ hd) hl (fun lc' hl' => ab_sound l D cs n y _ ls' _ z v z' hy h2 hx hb hr hlocks hml hown hname hts hN hK hn0 hag hsame hl' hP hD hS hA)
            · split at h1
              · rename_i t off st1 hbr
                split at h1
                · rename_i h0
                  cases h1
                  exact ab_br_W hx hb hbr h0 hd hlen (ab_sound l D cs n y _ ls _ z v z' hy h2 hx hb hr hlocks hml hown hname hts hN hK hn0 hag hsame hl hP hD hS hA)
                · cases h1
              · split at h1
                · rename_i st1 z2 hhe
                  cases h1
                  have hsz : len = ab_sz i := by
                    rcases hlen with q | q
                    · exact q
                    · cases i <;> first | (cases q; done) | (simp [ab_he] at hhe)
                  have hzn := ab_he_n hhe
                  refine ab_he_W hx hb hhe (hsz ▸ hd) ho (by rw [w7]; exact hown) (by rw [hml]; exact hl.1.symm) (fun q => by rw [hname]; exact eq_of_beq q) hts hK hP hD hS hfr hlo (by show _ ≤ z'.2.2.2 - z0.2.2.2; omega) (by show _ ≤ ab_sl z'.2.2.2 - ab_sl z0.2.2.2; omega) (fun H' locs' _ hP' hD' hS' => ?_)
                  rw [← hzn] at hn0 hsame ⊢
                  exact ab_sound l D cs n y _ ls _ z1 v z' hy h2 hx hb hr hlocks hml hown hname hts hN hK hn0 hag hsame hl hP' hD' hS' hA
                · split at h1
                  · rename_i st1 z2 hnw
                    cases h1
                    have hsz : len = ab_sz i := by
                      rcases hlen with q | q
                      · exact q
                      · cases i <;> first | (cases q; done) | (simp [ab_nw] at hnw)
                    have hzn := ab_nw_n hnw
                    have hwz : ab_sl z1.2.2.2 = ab_sl z.2.2.2 + ab_wz z.2.2.2 := by rw [hzn]; rfl
                    refine ab_nw_W hx hb hnw (hsz ▸ hd) ho (by rw [w7]; exact hown) hts hl hK hP hD hS hA (by show _ ≤ z'.2.2.2 - z0.2.2.2; omega) (by show _ ≤ ab_sl z'.2.2.2 - ab_sl z0.2.2.2; omega) (fun ad' H' _ ha1 hl' hP' hD' hS' => ?_)
                    rw [show z.2.2.2 - z0.2.2.2 + 1 = z1.2.2.2 - z0.2.2.2 by omega, show ab_sl z.2.2.2 - ab_sl z0.2.2.2 + ab_wz z.2.2.2 = ab_sl z1.2.2.2 - ab_sl z0.2.2.2 by omega]
                    exact ab_sound l D cs n y _ ls _ z1 v z' hy h2 hx hb hr hlocks hml hown hname hts hN hK (by omega) (fun k hk => (ha1 k (by omega)).trans (hag k hk)) (fun hq => by omega) hl' hP' hD' hS' hA
                  · cases h1
theorem ab_metOf (l : Launch) (D : va_G) (cs : ab_C3) {n y' : Nat} {as : List Value} {z z1 : ab_S} {v1 : Option Value} (hy' : y' < 203) (hea : (ab_ea as).length ≤ (ab_row y').2.2.1) (h1 : ab_run n y' 0 (ab_en (ab_row y').2.2.1 as) [] z = some (v1, z1)) : ab_Met l D cs y' as z v1 z1 := by
  intro ad1 sz
  obtain ⟨x1, x2, x3, x4, x5, x6, x7, x8, x9, x10, x11, x12⟩ := ab_mkW hy'
  refine Met.ofW (cc := (ab_row y').2.1) (maxL := (ab_row y').2.2.1) (ret := (ab_row y').2.2.2.1) (ws' := ab_wd) x1.1 rfl ?_
  intro p e s m args below meth c s₁ B hml hv
  obtain ⟨rfl, hsz, hP1, hK1, hD1, hN1⟩ := hv
  subst hsz
  have hts1 := atoms_spec (ws := ab_ws y') B.pre
  rw [lg_entry_eq]
  have key := ab_sound l D cs n y' 0 _ [] z v1 z1 hy' h1 (p := p) (e := e) (s := s) (m := m) (args := (as.map (ab_v ad1)).toArray) (below := below) (meth := meth) (c := c) (H := s.heap) (locs := []) (lc := ((lg_sl (as.map (ab_v ad1)) ++ List.replicate ((ab_row y').2.2.1 - (lg_sl (as.map (ab_v ad1))).length) Slot.unset).toArray)) (ad := ad1) (ad0 := ad1) (z0 := z) (A := va_A (ab_wl cs ad1 z) s.heap.size) B.exec B.bytes B.returns B.notSynchronized hml (findClass_of_methodNamed B.named) (name_of_methodNamed B.named B.method).1 (fun w hw => hts1 w (List.mem_cons_of_mem _ hw)) hN1 hK1 (Nat.le_refl _) (fun _ _ => rfl) (fun _ => rfl) (ab_en_has ad1 as hea) hP1 hD1.self va_S.rf (fun q hq => Or.inr hq)
  rw [Nat.sub_self, Nat.sub_self] at key
  exact key
end
section
/-! THE LAW'S OWN BODY, by the small machine: the script is the cell 999, which is only read -/
def ab_gdL (kd y' nest n : Nat) (as rest : List Value) : Bool :=
  let q := ab_row y'
  decide (as.length = q.2.2.2.2.1 + (if kd = 1 then 0 else 1)) && decide (q.2.2.2.2.2.2.1 < 100) && decide ((rest.map (fun v => v.category)).sum ≤ 8) && (q.2.2.2.2.2.1 == (kd == 1)) && ((q.1.name == "<init>") == (kd == 2)) && (kd == 1 || ab_rc (ab_own y') n as) && (kd != 0 || nest == 0) && decide ((ab_ea as).length ≤ q.2.2.1)
def ab_goL (kd j n : Nat) (st : List Value) : Option (Nat × List Value × List Value) := match ab_md 11 j with
  | some (y', nest, _) => if y' < 1000 ∧ ab_gdL kd y' nest n (st.take (ab_na kd y')).reverse (st.drop (ab_na kd y')) = true then some (y', (st.take (ab_na kd y')).reverse, st.drop (ab_na kd y')) else none
  | none => none
def ab_clL (i : Instr) (n : Nat) (st : List Value) : Option (Nat × List Value × List Value) := match i with
  | .invokevirtual j => ab_goL 0 j n st
  | .invokestatic j => ab_goL 1 j n st
  | .invokespecial j => ab_goL 2 j n st
  | _ => none
def ab_lx (xs : Nat → Int32) (L : Nat) (i : Instr) (st : List Value) : Option (List Value) := match i, st with
  | .iaload, .int x :: .ref k :: st => if k = 999 ∧ 0 ≤ x.toInt ∧ x.toInt < L then some (.int (xs x.toNatClampNeg) :: st) else none
  | .arraylength, .ref k :: st => if k = 999 then some (.int (Int32.ofNat L) :: st) else none
  | _, _ => none
/-- the law's end: 1 is answered -/
def ab_lr (i : Instr) (st : List Value) : Bool := match i, st with
  | .ireturn, [.int x] => decide (x = 1)
  | _, _ => false
def ab_lw (xs : Nat → Int32) (L : Nat) : Nat → Nat → ab_L → List Value → ab_S → Bool
  | 0, _, _, _, _ => false
  | n + 1, pc, ls, st, z => match ab_cL.lookup pc with
    | none => false
    | some i => match ab_lr i st with
      | true => true
      | false => match ab_lx xs L i st with
        | some st' => ab_lw xs L n (pc + ab_sz i) ls st' z
        | none => match ab_clL i z.2.2.2 st with
          | some (y', as, rest) => match ab_run n y' 0 (ab_en (ab_row y').2.2.1 as) [] z with
            | some r => if ab_cb y' ls rest z r.2 = true ∧ r.2.2.2.2 ≤ 75 then ab_lw xs L n (pc + 3) ls (r.1.toList ++ rest) r.2 else false
            | none => false
          | none => match ab_ex 11 false i pc ls st z with
            | some q => if q.2.2.2.2.2.2 ≤ 75 then ab_lw xs L n q.1 q.2.1 q.2.2.1 q.2.2.2 else false
            | none => false
section ABL
variable {p : Program} {l : Launch} {e : Env} {R : Room} {s : State} {m : MethodId} {args : Array Value} {below : List Frame} {meth : Method} {c : Code} {H : Heap} {locs : List Loc} {cells slots : Nat} {Q : State → Prop}
variable {cc : ByteArray} {pc : Nat} {lc : Array Slot} {ad : Nat → Nat} {nL : Nat} {D : va_G} {cs : ab_C3} {A A1 : Nat → Prop} {H0 : Heap}
/-- a call of the law, by the callee's contract -/
theorem ab_clL_W {y' : Nat} {i : Instr} {st as rest : List Value} {z z1 : ab_S} {v : Option Value} (hx : p.tables.exec = Jvm.exec) (hb : c.code = cc) (h : ab_clL i z.2.2.2 st = some (y', as, rest)) (hd : decode cc pc = .ok (i, ab_sz i)) (hown : s.vm.findClass (ab_cn.getD 11 "") = some m.cls) (hml : c.maxLocals = nL) (hlc : lc.size = nL) (hts : ∀ w ∈ ab_wd, w.before args s = true) (hN : ab_N s) (hK : va_K D vwCl (ab_ty3 cs) s) (hP : va_P D vwCl (ab_wl cs ad z) H) (hD : va_D A (ab_wl cs ad z)) (hS : va_S A H0 H locs) (hA : ∀ q, H0.size ≤ q → A q)
    (hfr : 100 ≤ R.frames) (hlo : 6400 ≤ R.locals) (hM : y' < 203 → ab_Met l D cs y' as z v z1) (hce : cells + (z1.2.2.2 - z.2.2.2) ≤ R.cells) (hsl : slots + (ab_sl z1.2.2.2 - ab_sl z.2.2.2) ≤ R.slots)
    (kk : ∀ (ad' : Nat → Nat) (H1 : Heap) (locs1 : List Loc), (∀ k, (k < z.2.2.2 ∨ 999 ≤ k) → ad' k = ad k) → (z1.2.2.2 = z.2.2.2 → ad' = ad) → va_P D vwCl (ab_wl cs ad' z1) H1 → va_D A (ab_wl cs ad' z1) → va_S A H0 H1 locs1 → W p l e R s m args below meth c H1 locs1 (cells + (z1.2.2.2 - z.2.2.2)) (slots + (ab_sl z1.2.2.2 - ab_sl z.2.2.2)) Q (F0 m (pc + 3) lc (v.toList ++ rest.map (ab_v ad)))) :
    W p l e R s m args below meth c H locs cells slots Q (F0 m pc lc (st.map (ab_v ad))) := by
  have ho : 11 < 12 := by decide
  have hA1 : ∀ q, va_A (ab_wl cs ad z) H.size q → A q := by
    intro q hq
    rcases hq with ⟨k, e, hk⟩ | hq
    · exact hD.2 k (q, e) hk
    · exact hA q (Nat.le_trans hS.1 hq)
  have common : ∀ {kd j : Nat}, ab_goL kd j z.2.2.2 st = some (y', as, rest) → y' < 203 ∧ ∃ nest : Nat, ab_gdL kd y' nest z.2.2.2 as rest = true ∧ st = as.reverse ++ rest ∧ (nest = 0 → (Cond.methodLink (ab_cn.getD 11 "") j (ab_row y').1).before args s = true) ∧ (¬ nest = 0 → va_Nw (.methodLinkNest (ab_cn.getD 11 "") j (ab_row y').1 "MarkedHands") s) := by
    intro kd j hg
    unfold ab_goL at hg
    split at hg
    · rename_i t nest q hmd
      split at hg
      · rename_i hc
        cases hg
        have hw := ab_mdW ho hmd
        have ht : y' < 1000 := hc.1
        rw [if_neg (by omega), if_neg (by omega), if_neg (by omega), if_neg (by omega)] at hw
        simp only [Bool.and_eq_true, decide_eq_true_eq] at hw
        refine ⟨hw.1, nest, hc.2, ?_, fun hn => ?_, fun hn => ?_⟩
        · rw [List.reverse_reverse, List.take_append_drop]
        · have h2 := hw.2
          rw [if_pos hn] at h2
          exact hts _ (ab_at_in h2)
        · have h2 := hw.2
          rw [if_neg hn] at h2
          simp only [decide_eq_true_eq] at h2
          have hmd' := hmd
          rw [h2.1] at hmd'
          exact hN _ _ _ _ ho hmd' hw.1
      · cases hg
    · cases hg
  have gd : ∀ {kd nest : Nat}, ab_gdL kd y' nest z.2.2.2 as rest = true → as.length = (ab_row y').2.2.2.2.1 + (if kd = 1 then 0 else 1) ∧ ab_rk y' < 100 ∧ (rest.map (fun v => v.category)).sum ≤ 8 ∧ ((ab_row y').2.2.2.2.2.1 = (kd == 1)) ∧ (((ab_row y').1.name == "<init>") = (kd == 2)) ∧ (kd = 1 ∨ ab_rc (ab_own y') z.2.2.2 as = true) ∧ (kd = 0 → nest = 0) ∧ (ab_ea as).length ≤ (ab_row y').2.2.1 := by
    intro kd nest hg
    simp only [ab_gdL, Bool.and_eq_true, decide_eq_true_eq, Bool.or_eq_true, beq_iff_eq, bne_iff_ne, ne_eq] at hg
    obtain ⟨⟨⟨⟨⟨⟨⟨g1, g2⟩, g3⟩, g4⟩, g5⟩, g6⟩, g7⟩, g8⟩ := hg
    exact ⟨g1, g2, g3, g4, g5, g6, fun hk => by rcases g7 with h | h; exact absurd hk h; exact h, g8⟩
  have h8 : (rest.map (fun v => v.category)).sum ≤ 8 → 2 * (F0 m pc lc (st.map (ab_v ad))).monitorRoom + ((rest.map (ab_v ad)).map (fun v => v.category)).sum ≤ 8 := fun h => lv_room (by rw [ab_v_cats]; exact h)
  have cbB : y' < 203 → ab_rk y' < 100 → ∀ {n j : Nat}, n = (ab_row y').2.2.2.2.1 → (Cond.methodLink (ab_cn.getD 11 "") j (ab_row y').1).before args s = true → CallB R s args (ab_cn.getD 11 "") j (ab_row y').1 (ab_row y').2.1 (ab_row y').2.2.1 (ab_row y').2.2.2.1 (ab_ws y') (ab_rm y' (z1.2.2.2 - z.2.2.2) (ab_sl z1.2.2.2 - ab_sl z.2.2.2)) (z1.2.2.2 - z.2.2.2) (ab_sl z1.2.2.2 - ab_sl z.2.2.2) n := by
    intro hy' hrk n j hn hl
    obtain ⟨w1, w2, w3, w4, w5, w6, w7, w8, w9, w10, w11, w12⟩ := ab_mkW hy'
    refine ⟨rfl, rfl, ?_, ?_, ab_pay hy' hts, List.mem_cons_self, hts _ w2, hts _ w3, ⟨w1.2.1, w1.2.2⟩, fun sig hs => ?_, hl⟩
    · show ab_rk y' + 1 ≤ R.frames
      omega
    · show 8 + ((ab_row y').2.2.1 + 11) + 64 * ab_rk y' ≤ R.locals
      omega
    · rw [hs] at w6
      exact hn.trans (Option.some.inj w6).symm
  have cbN : y' < 203 → ab_rk y' < 100 → ∀ {n j : Nat}, n = (ab_row y').2.2.2.2.1 → va_Nw (.methodLinkNest (ab_cn.getD 11 "") j (ab_row y').1 "MarkedHands") s → va_CN R s args (ab_cn.getD 11 "") j (ab_row y').1 "MarkedHands" (ab_row y').2.1 (ab_row y').2.2.1 (ab_row y').2.2.2.1 (ab_ws y') (ab_rm y' (z1.2.2.2 - z.2.2.2) (ab_sl z1.2.2.2 - ab_sl z.2.2.2)) (z1.2.2.2 - z.2.2.2) (ab_sl z1.2.2.2 - ab_sl z.2.2.2) n := by
    intro hy' hrk n j hn hl
    obtain ⟨w1, w2, w3, w4, w5, w6, w7, w8, w9, w10, w11, w12⟩ := ab_mkW hy'
    refine ⟨⟨rfl, rfl, ?_, ?_, ab_pay hy' hts, List.mem_cons_self⟩, hts _ w2, hts _ w3, ⟨w1.2.1, w1.2.2⟩, fun sig hs => ?_, va_Nw.use rfl hl⟩
    · show ab_rk y' + 1 ≤ R.frames
      omega
    · show 8 + ((ab_row y').2.2.1 + 11) + 64 * ab_rk y' ≤ R.locals
      omega
    · rw [hs] at w6
      exact hn.trans (Option.some.inj w6).symm
  have rc : ab_rc (ab_own y') z.2.2.2 as = true → ∃ (k : Nat) (as' : List Value), as = .ref k :: as' ∧ ab_ly k = (0, ab_own y') ∧ k < z.2.2.2 := by
    intro h
    cases hq : as with
    | nil => rw [hq] at h; cases h
    | cons v as' =>
      rw [hq] at h
      cases v with
      | ref k =>
        have h2 : (ab_ly k == (0, ab_own y') && decide (k < z.2.2.2)) = true := h
        rw [Bool.and_eq_true, beq_iff_eq, decide_eq_true_eq] at h2
        exact ⟨k, as', rfl, h2.1, h2.2⟩
      | _ => cases h
  unfold ab_clL at h
  split at h
  · rename_i j
    obtain ⟨hy', nest, hg, hst, hl0, hl1⟩ := common h
    obtain ⟨g1, g2, g3, g4, g5, g6, g7, g8⟩ := gd hg
    obtain ⟨k0, as', rfl, hly, hk0⟩ := rc (by rcases g6 with q | q; exact absurd q (by decide); exact q)
    obtain ⟨w1, w2, w3, w4, w5, w6, w7, w8, w9, w10, w11, w12⟩ := ab_mkW hy'
    have hst0 : (ab_row y').2.2.2.2.2.1 = false := by rw [g4]; rfl
    have hnm : (ab_row y').1.name ≠ "<init>" := fun q => by rw [q] at g5; exact absurd g5 (by decide)
    have hcl : vwCl[ab_own y']? = some ((vwCl[ab_own y']?).getD ("", fun _ => ("", "", "", false), 0)) ∧ ((vwCl[ab_own y']?).getD ("", fun _ => ("", "", "", false), 0)).1 = (ab_row y').1.cls := by
      have := w12 hst0
      cases hq : vwCl[ab_own y']? with
      | none => rw [hq] at this; cases this
      | some r => rw [hq] at this; exact ⟨rfl, Option.some.inj this⟩
    have he := ab_wl_at (cs := cs) (ad := ad) hk0
    rw [ab_ce_obj hly] at he
    have hrec := va_recv hK hP hcl.1 he
    rw [hcl.2] at hrec
    have hn : (as'.map (ab_v ad)).length = (ab_row y').2.2.2.2.1 := by
      rw [List.length_map]
      have : as'.length + 1 = (ab_row y').2.2.2.2.1 + 1 := g1
      omega
    exact ab_after (va_runV (As := as'.map (ab_v ad)) (rest := rest.map (ab_v ad)) ⟨hx, hb, hml, hown, hts⟩ (hM hy' ad H.size) ⟨cbB hy' g2 rfl (hl0 (g7 rfl)), hts _ (w5 hst0).1, hts _ ((w5 hst0).2 hnm)⟩ ⟨ab_blind, hrec, ab_pre hK hN hP hD⟩ rfl hn hlc (by rw [hst]; simp [ab_v]) (h8 g3) hd ⟨hce, hsl⟩) hS hA1 kk
  · rename_i j
    obtain ⟨hy', nest, hg, hst, hl0, hl1⟩ := common h
    obtain ⟨g1, g2, g3, g4, g5, g6, g7, g8⟩ := gd hg
    obtain ⟨w1, w2, w3, w4, w5, w6, w7, w8, w9, w10, w11, w12⟩ := ab_mkW hy'
    have hst0 : (ab_row y').2.2.2.2.2.1 = true := by rw [g4]; rfl
    have hn : (as.map (ab_v ad)).length = (ab_row y').2.2.2.2.1 := by
      rw [List.length_map]
      exact g1
    by_cases hne : nest = 0
    · exact ab_after (va_runS (As := as.map (ab_v ad)) (rest := rest.map (ab_v ad)) ⟨hx, hb, hml, hown, hts⟩ (hM hy' ad H.size) ⟨cbB hy' g2 rfl (hl0 hne), hts _ (w4 hst0)⟩ ⟨ab_blind, ab_pre hK hN hP hD⟩ rfl hn hlc (by rw [hst]; simp) (h8 g3) hd ⟨hce, hsl⟩) hS hA1 kk
    · exact ab_after (va_runSN (As := as.map (ab_v ad)) (rest := rest.map (ab_v ad)) ⟨hx, hb, hml, hown, hts⟩ (hM hy' ad H.size) ⟨cbN hy' g2 rfl (hl1 hne), hts _ (w4 hst0), trivial⟩ ⟨ab_blind, ab_pre hK hN hP hD⟩ rfl hn hlc (by rw [hst]; simp) (h8 g3) hd ⟨hce, hsl⟩) hS hA1 kk
  · rename_i j
    obtain ⟨hy', nest, hg, hst, hl0, hl1⟩ := common h
    obtain ⟨g1, g2, g3, g4, g5, g6, g7, g8⟩ := gd hg
    obtain ⟨k0, as', rfl, hly, hk0⟩ := rc (by rcases g6 with q | q; exact absurd q (by decide); exact q)
    obtain ⟨w1, w2, w3, w4, w5, w6, w7, w8, w9, w10, w11, w12⟩ := ab_mkW hy'
    have hst0 : (ab_row y').2.2.2.2.2.1 = false := by rw [g4]; rfl
    have hnm : (ab_row y').1.name = "<init>" := eq_of_beq (by rw [g5]; rfl)
    have hn : (as'.map (ab_v ad)).length = (ab_row y').2.2.2.2.1 := by
      rw [List.length_map]
      have : as'.length + 1 = (ab_row y').2.2.2.2.1 + 1 := g1
      omega
    have hrn := w11 hnm
    by_cases hne : nest = 0
    · have cb := cbB hy' g2 rfl (hl0 hne)
      rw [hrn] at cb
      exact ab_after (va_runI (b := ad k0) (As := as'.map (ab_v ad)) (rest := rest.map (ab_v ad)) ⟨hx, hb, hml, hown, hts⟩ (hM hy' ad H.size) ⟨cb, hnm, hts _ (w5 hst0).1⟩ ⟨ab_blind, ab_pre hK hN hP hD⟩ rfl hn hlc (by rw [hst]; simp [ab_v]) (h8 g3) hd ⟨hce, hsl⟩) hS hA1 kk
    · have cb := cbN hy' g2 rfl (hl1 hne)
      rw [hrn] at cb
      exact ab_after (va_runIN (b := ad k0) (As := as'.map (ab_v ad)) (rest := rest.map (ab_v ad)) ⟨hx, hb, hml, hown, hts⟩ (hM hy' ad H.size) ⟨cb, hnm, hts _ (w5 hst0).1⟩ ⟨ab_blind, ab_pre hK hN hP hD⟩ rfl hn hlc (by rw [hst]; simp [ab_v]) (h8 g3) hd ⟨hce, hsl⟩) hS hA1 kk
  · cases h
end ABL
end
section
/-! THE CLAIM OUT OF ONE WALK OF THE LAW'S BODY. Your part is whole_start (and what it stands on); all else here is the same for every law, but numbers. -/
def R_law : String := "MarkedHandsLaw"
def lw_P (b : Addr) (xs : List Int32) (args : Array Value) (s : State) : Prop := args = #[.ref b] ∧ s.IntsAt b xs ∧ xs.length ≤ 3072 ∧ (Jvm.Cond.and given_1 narrow_1).before args s = true
def lw_Q (_ : Array Value) (s : State) (o : Outcome) (t : State) : Prop := o = .returned (some (.int 1)) ∧ Framed s o t [] 600000 7302250
def lw_Z (below : List Frame) (a : Array Value) (s : State) : State → Prop := fun t => ∃ o, t.status = .running ∧ Ended t below o ∧ lw_Q a s o t
/-- the law's own end, with 1 on the stack, nothing written that was there before, its room as the claim has it -/
theorem lw_ret {p : Program} {l : Launch} {e : Env} {s : State} {m : MethodId} {below : List Frame} {meth : Method} {c : Code} {b : Nat} (hx : p.tables.exec = Jvm.exec) (hb : c.code = code) (hr : meth.sig.returnType = ret) (hlocks : meth.locks = false) {pc : Nat} {H : Heap} {ls : Array Slot} (hdg : decode code pc = .ok (.ireturn, 1)) : W p l e room_1 s m #[Value.ref b] below meth c H [] 600000 7302250 (lw_Z below #[Value.ref b] s) (F0 m pc ls [.int 1]) := by
  intro T hT X
  obtain ⟨fs, hret, hrun, hended, hW, hframe⟩ := X.leave (v := some (.int 1)) (hlocks := hlocks) (fun h => by rw [hr] at h; cases h)
  have hmeth' : T.vm.method? m = some meth := X.method'
  refine ⟨T.setFrames fs, ?_, .returned (some (.int 1)), hrun, hended, rfl, ⟨_, rfl⟩, hW, hframe⟩
  jvm_step X.here [X.here.top, hx, hb, hdg, hmeth', hr, ret, narrow_b1]
  (try refine ⟨rfl, ?_⟩); (try refine ⟨rfl, ?_⟩)
  first | (intro acts; rw [hret _ acts rfl rfl rfl]) | rw [hret _ _ rfl rfl rfl]
  exact Steps.refl _
/-- what holds at the law's entry: the machine, the code, the tables' words (any of lw_tbl by 'hts w (by decide +kernel)'), the script of L ints xs at the cell b, what the Statement gives of the start (any of its parts by flat_of_before) -/
def lw_At (p : Program) (s : State) (m : MethodId) (meth : Method) (c : Code) (b L : Nat) (xs : Nat → Int32) : Prop :=
  p.tables.exec = Jvm.exec ∧ c.code = code ∧ meth.sig.returnType = ret ∧ c.maxLocals = 4 ∧ s.vm.findClass R_law = some m.cls ∧ (∀ w ∈ lw_tbl, w.before #[Value.ref b] s = true) ∧ va_X b L xs s s.heap ∧ b < s.heap.size ∧ meth.locks = false ∧ (Jvm.Cond.and given_1 narrow_1).before #[Value.ref b] s = true
theorem ab_sl75 {n : Nat} (h : n ≤ 75) : ab_sl n ≤ 7302250 := Nat.le_trans (ab_sl_le h) (by decide +kernel)
theorem ab_dLW {pc : Nat} {i : Instr} (hi : ab_cL.lookup pc = some i) : ∃ n, decode code pc = .ok (i, n) ∧ (n = ab_sz i ∨ ab_ts i = true) := by
  have h1 := List.all_eq_true.mp ab_dL _ (ab_look hi)
  unfold ab_dk at h1
  dsimp only at h1
  split at h1
  · rename_i i' n hd
    simp only [Bool.and_eq_true, Bool.or_eq_true, decide_eq_true_eq] at h1
    obtain ⟨rfl, h2⟩ := h1
    refine ⟨n, hd, ?_⟩
    rcases h2 with h | h
    · exact Or.inl (eq_of_beq h)
    · exact Or.inr h
  · cases h1
set_option maxHeartbeats 8000000 in
theorem ab_lwW (l : Launch) (D : va_G) (cs : ab_C3) (xs : Nat → Int32) (L : Nat) : ∀ (n pc : Nat) (ls : ab_L) (st : List Value) (z : ab_S), ab_lw xs L n pc ls st z = true →
    ∀ (p : Program) (e : Env) (s : State) (m : MethodId) (below : List Frame) (meth : Method) (c : Code) (H : Heap) (locs : List Loc) (lc : Array Slot) (ad : Nat → Nat) (b : Nat),
    p.tables.exec = Jvm.exec → c.code = code → meth.sig.returnType = ret → meth.locks = false → c.maxLocals = 4 → s.vm.findClass (ab_cn.getD 11 "") = some m.cls → (∀ w ∈ ab_wd, w.before #[Value.ref b] s = true) → ab_N s → va_K D vwCl (ab_ty3 cs) s → va_X b L xs s s.heap → b < s.heap.size → z.2.2.2 ≤ 75 → ad 999 = b → ab_has lc 4 ad ls → va_P D vwCl (ab_wl cs ad z) H → va_D (fun q => s.heap.size ≤ q) (ab_wl cs ad z) → va_S (fun q => s.heap.size ≤ q) s.heap H locs →
    W p l e room_1 s m #[Value.ref b] below meth c H locs z.2.2.2 (ab_sl z.2.2.2) (lw_Z below #[Value.ref b] s) (F0 m pc lc (st.map (ab_v ad)))
  | 0, _, _, _, _, h => by cases h
  | n + 1, pc, ls, st, z, h => by
    intro p e s m below meth c H locs lc ad b hx hb hr hlocks hml hown hts hN hK hX hbl hn75 had hl hP hD hS
    have hA : ∀ q, s.heap.size ≤ q → (fun q => s.heap.size ≤ q) q := fun _ h => h
    unfold ab_lw at h
    split at h
    · cases h
    · rename_i i hi
      obtain ⟨len, hd, hlen⟩ := ab_dLW hi
      have hd' : ab_ts i = false → decode code pc = .ok (i, ab_sz i) := by
        intro q
        rcases hlen with r | r
        · rw [← r]; exact hd
        · rw [q] at r; cases r
      split at h
      · rename_i hlr
        unfold ab_lr at hlr
        split at hlr
        · rename_i x
          have hx1 := of_decide_eq_true hlr
          subst hx1
          have e1 := ab_sl75 hn75
          refine W.widen (k := 600000) (n := 7302250) (by omega) e1 ?_
          refine va_forget (fun q hq => hS.2.2 q hq) ?_
          exact lw_ret hx hb hr hlocks (hd' rfl)
        · cases hlr
      · split at h
        · rename_i st1 hlx
          unfold ab_lx at hlx
          split at hlx
          · split at hlx
            · rename_i x k st0 hk
              cases hlx
              obtain ⟨rfl, h0, h1⟩ := hk
              have kk := ab_lwW l D cs xs L n _ ls _ z h p e s m below meth c H locs lc ad b hx hb hr hlocks hml hown hts hN hK hX hbl hn75 had hl hP hD hS
              have e1 : ab_v ad (.ref 999) = .ref b := by show Value.ref (ad 999) = _; rw [had]
              rw [List.map_cons, List.map_cons, e1]
              exact va_sld hx hb hX hbl (Nat.not_le.mpr hbl) hS (ab_vp h0 h1) (hd' rfl) kk
            · cases hlx
          · split at hlx
            · rename_i k st0 hk
              cases hlx
              subst hk
              have kk := ab_lwW l D cs xs L n _ ls _ z h p e s m below meth c H locs lc ad b hx hb hr hlocks hml hown hts hN hK hX hbl hn75 had hl hP hD hS
              have e1 : ab_v ad (.ref 999) = .ref b := by show Value.ref (ad 999) = _; rw [had]
              rw [List.map_cons, e1]
              exact va_slen hx hb hX hbl (Nat.not_le.mpr hbl) hS (hd' rfl) kk
            · cases hlx
          · cases hlx
        · split at h
          · rename_i y' as rest hcl
            split at h
            · rename_i r h1
              obtain ⟨v1, z1⟩ := r
              split at h
              · rename_i hcb
                obtain ⟨hbd, h75⟩ := hcb
                dsimp only at h75 h hbd
                have hmono1 := ab_run_n n _ _ _ _ _ _ _ h1
                have hs1 := ab_sl_le hmono1
                have e75 := ab_sl75 h75
                have hts0 : ab_ts i = false := by
                  cases i <;> first | rfl | (simp [ab_clL] at hcl)
                have hea : (ab_ea as).length ≤ (ab_row y').2.2.1 := by
                  unfold ab_clL at hcl
                  have aux : ∀ {kd j : Nat}, ab_goL kd j z.2.2.2 st = some (y', as, rest) → (ab_ea as).length ≤ (ab_row y').2.2.1 := by
                    intro kd j hg
                    unfold ab_goL at hg
                    split at hg
                    · split at hg
                      · rename_i hc
                        cases hg
                        have := hc.2
                        simp only [ab_gdL, Bool.and_eq_true, decide_eq_true_eq] at this
                        exact this.2
                      · cases hg
                    · cases hg
                  split at hcl <;> first | exact aux hcl | cases hcl
                refine ab_clL_W hx hb hcl (hd' hts0) hown hml hl.1 hts hN hK hP hD hS hA (by decide) (by decide) (fun q => ab_metOf l D cs q hea h1) (by show _ ≤ 600000; omega) (by show _ ≤ 7302250; omega) (fun ad' H1 locs1 ha1 ha2 hP1 hD1 hS1 => ?_)
                have hv1 : ∀ v2, v1 = some v2 → ∀ k, v2 ≠ .ref k := fun v2 e2 => ab_run_v n _ _ _ _ _ v2 _ (e2 ▸ h1)
                have el : ab_has lc 4 ad' ls ∧ (v1.toList ++ rest.map (ab_v ad)) = (v1.toList ++ rest).map (ab_v ad') ∧ ad' 999 = b := by
                  have e0 : v1.toList.map (ab_v ad') = v1.toList := by
                    cases v1 with
                    | none => rfl
                    | some v2 =>
                      have := hv1 v2 rfl
                      cases v2 with
                      | ref k => exact absurd rfl (this k)
                      | _ => rfl
                  refine ⟨?_, ?_, (ha1 999 (Or.inr (by decide))).trans had⟩ <;> unfold ab_cb at hbd <;> split at hbd
                  · simp only [ab_bd, Bool.and_eq_true] at hbd
                    exact ab_has_n ha1 hbd.1.1 hl
                  · have q : z1.2.2.2 = z.2.2.2 := by rw [of_decide_eq_true hbd]
                    rw [ha2 q]
                    exact hl
                  · simp only [ab_bd, Bool.and_eq_true] at hbd
                    rw [List.map_append, e0, ab_vs_n ha1 hbd.1.2]
                  · have q : z1.2.2.2 = z.2.2.2 := by rw [of_decide_eq_true hbd]
                    rw [ha2 q] at e0 ⊢
                    rw [List.map_append, e0]
                rw [el.2.1, show z.2.2.2 + (z1.2.2.2 - z.2.2.2) = z1.2.2.2 by omega, show ab_sl z.2.2.2 + (ab_sl z1.2.2.2 - ab_sl z.2.2.2) = ab_sl z1.2.2.2 by omega]
                exact ab_lwW l D cs xs L n (pc + 3) ls _ z1 h p e s m below meth c H1 locs1 lc ad' b hx hb hr hlocks hml hown hts hN hK hX hbl h75 el.2.2 el.1 hP1 hD1 hS1
              · cases h
            · cases h
          · split at h
            · rename_i q h1
              obtain ⟨pc', ls', st', z1⟩ := q
              split at h
              · rename_i h75
                dsimp only at h75 h
                have hmono1 := ab_ex_n h1
                dsimp only at hmono1
                have hs1 := ab_sl_le hmono1
                have e75 := ab_sl75 h75
                have e75' := ab_sl75 hn75
                unfold ab_ex at h1
                split at h1
                · rename_i st1 hop
                  cases h1
                  have hsz : ab_ts i = false := by cases i <;> first | rfl | (simp [ab_op] at hop)
                  exact ab_op_W hx hb hop (hd' hsz) (ab_lwW l D cs xs L n _ ls _ z h p e s m below meth c H locs lc ad b hx hb hr hlocks hml hown hts hN hK hX hbl hn75 had hl hP hD hS)
                · split at h1
                  · rename_i ls1 st1 hlo1
                    cases h1
                    have hsz : ab_ts i = false := by cases i <;> first | rfl | (simp [ab_lo] at hlo1)
                    exact ab_lo_W hx hb hlo1 (hd' hsz) hl (fun lc' hl' => ab_lwW l D cs xs L n _ ls' _ z h p e s m below meth c H locs lc' ad b hx hb hr hlocks hml hown hts hN hK hX hbl hn75 had hl' hP hD hS)
                  · split at h1
                    · rename_i t off st1 hbr
                      split at h1
                      · rename_i h0
                        cases h1
                        exact ab_br_W hx hb hbr h0 hd hlen (ab_lwW l D cs xs L n _ ls _ z h p e s m below meth c H locs lc ad b hx hb hr hlocks hml hown hts hN hK hX hbl hn75 had hl hP hD hS)
                      · cases h1
                    · split at h1
                      · rename_i st1 z2 hhe
                        cases h1
                        have hsz : ab_ts i = false := by cases i <;> first | rfl | (simp [ab_he] at hhe)
                        have hzn := ab_he_n hhe
                        refine ab_he_W hx hb hhe (hd' hsz) (by decide) hown (by rw [hml]; exact hl.1.symm) (fun q => by cases q) hts hK hP hD hS (by decide) (by decide) (by show _ ≤ 600000; omega) (by show _ ≤ 7302250; omega) (fun H' locs' _ hP' hD' hS' => ?_)
                        rw [← hzn]
                        exact ab_lwW l D cs xs L n _ ls _ z1 h p e s m below meth c H' locs' lc ad b hx hb hr hlocks hml hown hts hN hK hX hbl h75 had hl hP' hD' hS'
                      · split at h1
                        · rename_i st1 z2 hnw
                          cases h1
                          have hsz : ab_ts i = false := by cases i <;> first | rfl | (simp [ab_nw] at hnw)
                          have hzn := ab_nw_n hnw
                          have hwz : ab_sl z1.2.2.2 = ab_sl z.2.2.2 + ab_wz z.2.2.2 := by rw [hzn]; rfl
                          refine ab_nw_W hx hb hnw (hd' hsz) (by decide) hown hts hl hK hP hD hS hA (by show _ ≤ 600000; omega) (by show _ ≤ 7302250; omega) (fun ad' H' _ ha1 hl' hP' hD' hS' => ?_)
                          rw [show z.2.2.2 + 1 = z1.2.2.2 by omega, ← hwz]
                          exact ab_lwW l D cs xs L n _ ls _ z1 h p e s m below meth c H' locs lc ad' b hx hb hr hlocks hml hown hts hN hK hX hbl h75 ((ha1 999 (Or.inr (by decide))).trans had) hl' hP' hD' hS'
                        · cases h1
              · cases h
            · cases h
theorem ab_wd_tbl {w : Cond} (h : w ∈ ab_wd) : w ∈ lw_tbl := (List.mem_filter.mp h).1
/-- nothing is there yet -/
def ab_s0 : ab_S := (fun _ _ => 0, fun _ _ => 0, List.replicate 75 [], 0)
/-- what is left: the law's body by the small machine comes to its end with true -/
def ab_Law : Prop := ∀ (L : Nat) (xs : Nat → Int32), L ≤ 3072 → ∃ n, ab_lw xs L n 0 [some (.ref 999), none, none, none] [] ab_s0 = true
theorem whole_open (hlaw : ab_Law) {p : Program} {e : Env} {s : State} {m : MethodId} {below : List Frame} {meth : Method} {c : Code} (l : Launch) {b L : Nat} {xs : Nat → Int32} (hL : L ≤ 3072) (C0 : lw_At p s m meth c b L xs) : W p l e room_1 s m #[Value.ref b] below meth c s.heap [] 0 0 (lw_Z below #[Value.ref b] s) (entryFrame m ([Value.ref b] : List Value).toArray 4) := by
  obtain ⟨hx, hb, hr, hml, hown, hts0, hX, hbl, hlocks, hgv⟩ := id C0
  have hts : ∀ w ∈ ab_wd, w.before #[Value.ref b] s = true := fun w hw => hts0 w (ab_wd_tbl hw)
  have hcl : ∀ k : Nat, ∃ q : ClassId × (Nat → Nat), ∀ r : vw_C, vwCl[k]? = some r → u_Kn s r.1 r.2.1 r.2.2 q.1 q.2 := by
    intro k
    cases hk : vwCl[k]? with
    | none => exact ⟨(0, fun _ => 0), fun r h => by cases h⟩
    | some r =>
      obtain ⟨w1, w2, w3⟩ := ab_cw hk
      obtain ⟨cC, iS, h⟩ := u_known (C := r.1) (T := r.2.1) (N := r.2.2) (n := r.2.2) hts w1 (hts _ w2)
      exact ⟨(cC, iS), fun r' h' => by cases h'; exact h⟩
  have harr : ∀ ty : FieldType, Cond.arrayClass ty ∈ ab_wd → (∀ C, ty ≠ .object C) → ∃ cA : ClassId, ArrOfT s cA ty ∧ va_RA s cA ty := by
    intro ty hty hno
    obtain ⟨cA, kA, comp, h1, h2, h3⟩ := Cond.arrayClass_spec (hts _ hty)
    refine ⟨cA, fun n z => ⟨fun k h => (by cases h), kA, h2, comp, h3⟩, ?_⟩
    cases ty with
    | object C => exact absurd rfl (hno C)
    | _ => exact h1
  obtain ⟨cI, hI1, hI2⟩ := harr .int (ab_oth (by simp)) (fun C h => by cases h)
  obtain ⟨cJ, hJ1, hJ2⟩ := harr .long (ab_oth (by simp)) (fun C h => by cases h)
  obtain ⟨cZ, hZ1, hZ2⟩ := harr .boolean (ab_oth (by simp)) (fun C h => by cases h)
  have hK : va_K (fun k => (Classical.choose (hcl k)).1, fun k => (Classical.choose (hcl k)).2) vwCl (ab_ty3 (cI, cJ, cZ)) s := by
    refine ⟨fun k q hq => Classical.choose_spec (hcl k) q hq, fun k q hk => ?_⟩
    match k, hk with
    | 0, hk => cases hk; exact ⟨hI1, hI2⟩
    | 1, hk => cases hk; exact ⟨hJ1, hJ2⟩
    | 2, hk => cases hk; exact ⟨hZ1, hZ2⟩
    | k + 3, hk => simp [ab_ty3] at hk
  have hN : ab_N s := by
    intro o j t q ho hm ht
    have hw := ab_mdW ho hm
    rw [if_neg (by omega), if_neg (by omega), if_neg (by omega), if_neg (by omega)] at hw
    simp only [Bool.and_eq_true, decide_eq_true_eq] at hw
    have h2 := hw.2
    rw [if_neg (by decide)] at h2
    simp only [decide_eq_true_eq] at h2
    exact va_Nw.of rfl (hts0 _ (List.mem_of_getElem? h2.2))
  obtain ⟨n, hn⟩ := hlaw L xs hL
  rw [lg_entry_eq]
  have hl := ab_en_has (fun _ => b) [Value.ref 999] (n := 4) (by decide)
  exact ab_lwW l _ (cI, cJ, cZ) xs L n 0 _ [] ab_s0 hn p e s m below meth c s.heap [] _ (fun _ => b) b hx hb hr hlocks hml hown hts hN hK hX hbl (by decide) rfl hl (fun k q h => by simp [ab_wl, ab_s0] at h) ⟨fun i j p q h => by simp [ab_wl, ab_s0] at h, fun k q h => by simp [ab_wl, ab_s0] at h⟩ va_S.rf
end
section
/-! THE JUDGEMENT of the small machine: At y pc locals stack ints longs Q -/
def ab_RF : List (List (Option Nat)) := [[some 1, some 5, some 17, some 29, some 30, some 33, some 39, some 43, some 47, some 48, none, none, none, none, none, none, none, none, none, none, none, none, none, none, none, none, none, none, none, none, none, none, none, none, none, none, none, none, none, none, none],
  [some 2, some 3, some 4, none, none, none, none, none, none, none, none, none, none, none, none, none, none, none, none, none, none, none, none, none, none, none, none, none, none, none, none, none, none, none, none, none, none, none, none, none, none],
  [],
  [],
  [],
  [some 6, some 7, some 8, some 9, some 10, some 11, some 12, some 13, some 14, some 15, some 16, none, none, none, none, none, none, none, none, none, none, none, none, none, none, none, none, none, none, none, none, none, none, none, none, none, none, none, none, none, none],
  [],
  [],
  [],
  [],
  [],
  [],
  [],
  [],
  [],
  [],
  [],
  [some 18, some 19, some 20, some 21, some 22, some 23, some 24, some 25, some 26, some 27, some 28, none, none, none, none, none, none, none, none, none, none, none, none, none, none, none, none, none, none, none, none, none, none, none, none, none, none, none, none, none, none],
  [],
  [],
  [],
  [],
  [],
  [],
  [],
  [],
  [],
  [],
  [],
  [none, none, none, none, none, none, none, none, none, none, none, none, none, none, none, none, none, none, none, none, none, none, none, none, none, none, none, none, none, none, none, none, none, none, none, none, none, none, none, none, none],
  [some 31, some 32, none, none, none, none, none, none, none, none, none, none, none, none, none, none, none, none, none, none, none, none, none, none, none, none, none, none, none, none, none, none, none, none, none, none, none, none, none, none, none],
  [],
  [],
  [some 34, some 35, some 36, some 37, some 38, none, none, none, none, none, none, none, none, none, none, none, none, none, none, none, none, none, none, none, none, none, none, none, none, none, none, none, none, none, none, none, none, none, none, none, none],
  [],
  [],
  [],
  [],
  [],
  [some 40, some 41, some 42, none, none, none, none, none, none, none, none, none, none, none, none, none, none, none, none, none, none, none, none, none, none, none, none, none, none, none, none, none, none, none, none, none, none, none, none, none, none],
  [],
  [],
  [],
  [some 44, some 45, some 46, none, none, none, none, none, none, none, none, none, none, none, none, none, none, none, none, none, none, none, none, none, none, none, none, none, none, none, none, none, none, none, none, none, none, none, none, none, none],
  [],
  [],
  [],
  [],
  [],
  [none, some 50, some 51, some 52, some 53, none, some 54, some 55, some 56, some 57, some 58, some 59, some 60, some 61, none, some 62, some 63, none, none, some 64, none, none, none, some 65, some 66, none, none, none, none, none, none, none, some 67, some 68, some 69, some 70, some 71, some 72, some 73, some 74, none],
  [],
  [],
  [],
  [],
  [],
  [],
  [],
  [],
  [],
  [],
  [],
  [],
  [],
  [],
  [],
  [],
  [],
  [],
  [],
  [],
  [],
  [],
  [],
  [],
  []]
abbrev ab_I : Type := Nat → Nat → Int32
abbrev ab_J : Type := Nat → Nat → Int64
def At (y pc : Nat) (ls : ab_L) (st : List Value) (I : ab_I) (J : ab_J) (Q : Option Value → ab_I → ab_J → Prop) : Prop := ∃ (n : Nat) (v : Option Value) (I' : ab_I) (J' : ab_J), ab_run n y pc ls st (I, J, ab_RF, 75) = some (v, I', J', ab_RF, 75) ∧ Q v I' J'
def Cal (y : Nat) (as : List Value) (I : ab_I) (J : ab_J) (Q : Option Value → ab_I → ab_J → Prop) : Prop := At y 0 (ab_en (ab_row y).2.2.1 as) [] I J Q
theorem ab_up1 : ∀ (n y pc : Nat) (ls : ab_L) (st : List Value) (z : ab_S) (r : Option Value × ab_S), ab_run n y pc ls st z = some r → ab_run (n + 1) y pc ls st z = some r
  | 0, _, _, _, _, _, _, h => by cases h
  | n + 1, y, pc, ls, st, z, r, h => by
    unfold ab_run at h ⊢
    cases hi : ab_ins y pc with
    | none => rw [hi] at h; cases h
    | some i =>
      rw [hi] at h
      dsimp only at h ⊢
      cases hr : ab_rt (ab_row y).2.2.2.1 i st with
      | some v => rw [hr] at h; exact h
      | none =>
        rw [hr] at h
        dsimp only at h ⊢
        cases hc : ab_cl y i z.2.2.2 st with
        | some q =>
          obtain ⟨y', as, rest⟩ := q
          rw [hc] at h
          dsimp only at h ⊢
          rw [Option.bind_eq_some_iff] at h ⊢
          obtain ⟨r1, h1, h2⟩ := h
          refine ⟨r1, ab_up1 n _ _ _ _ _ _ h1, ?_⟩
          split at h2
          · rename_i hq
            rw [if_pos hq]
            exact ab_up1 n _ _ _ _ _ _ h2
          · cases h2
        | none =>
          rw [hc] at h
          dsimp only at h ⊢
          rw [Option.bind_eq_some_iff] at h ⊢
          obtain ⟨r1, h1, h2⟩ := h
          exact ⟨r1, h1, ab_up1 n _ _ _ _ _ _ h2⟩
theorem ab_upk {n y pc : Nat} {ls : ab_L} {st : List Value} {z : ab_S} {r : Option Value × ab_S} (k : Nat) (h : ab_run n y pc ls st z = some r) : ab_run (n + k) y pc ls st z = some r := by
  induction k with
  | zero => exact h
  | succ k ih => exact ab_up1 (n + k) _ _ _ _ _ _ ih
section AT
variable {y pc pc' : Nat} {i : Instr} {ls ls' : ab_L} {st st' : List Value} {I I' : ab_I} {J J' : ab_J} {Q : Option Value → ab_I → ab_J → Prop}
theorem At_ex (hi : ab_ins y pc = some i) (hr : ab_rt (ab_row y).2.2.2.1 i st = none) (hc : ab_cl y i 75 st = none) (hx : ab_ex (ab_own y) ((ab_row y).1.name == "<init>") i pc ls st (I, J, ab_RF, 75) = some (pc', ls', st', (I', J', ab_RF, 75))) : At y pc ls st I J Q ↔ At y pc' ls' st' I' J' Q := by
  have key : ∀ n, ab_run (n + 1) y pc ls st (I, J, ab_RF, 75) = ab_run n y pc' ls' st' (I', J', ab_RF, 75) := by
    intro n
    rw [ab_run, hi]
    dsimp only
    rw [hr]
    dsimp only
    rw [hc]
    dsimp only
    rw [hx]
    rfl
  constructor
  · rintro ⟨n, v, I1, J1, h, q⟩
    cases n with
    | zero => cases h
    | succ n => exact ⟨n, v, I1, J1, by rw [← key]; exact h, q⟩
  · rintro ⟨n, v, I1, J1, h, q⟩
    exact ⟨n + 1, v, I1, J1, by rw [key]; exact h, q⟩
theorem At_no (hi : ab_ins y pc = some i) (hr : ab_rt (ab_row y).2.2.2.1 i st = none) (hc : ab_cl y i 75 st = none) (hx : ab_ex (ab_own y) ((ab_row y).1.name == "<init>") i pc ls st (I, J, ab_RF, 75) = none) : ¬ At y pc ls st I J Q := by
  rintro ⟨n, v, I1, J1, h, q⟩
  cases n with
  | zero => cases h
  | succ n =>
    rw [ab_run, hi] at h
    dsimp only at h
    rw [hr] at h
    dsimp only at h
    rw [hc] at h
    dsimp only at h
    rw [hx] at h
    cases h
theorem At_rt {v : Option Value} (hi : ab_ins y pc = some i) (hr : ab_rt (ab_row y).2.2.2.1 i st = some v) : At y pc ls st I J Q ↔ Q v I J := by
  have key : ∀ n, ab_run (n + 1) y pc ls st (I, J, ab_RF, 75) = some (v, I, J, ab_RF, 75) := by
    intro n
    rw [ab_run, hi]
    dsimp only
    rw [hr]
  constructor
  · rintro ⟨n, v1, I1, J1, h, q⟩
    cases n with
    | zero => cases h
    | succ n => rw [key] at h; cases h; exact q
  · intro q
    exact ⟨1, v, I, J, key 0, q⟩
theorem At_cl {y' : Nat} {as rest : List Value} (hni : ((ab_row y').1.name == "<init>") = false) (hi : ab_ins y pc = some i) (hr : ab_rt (ab_row y).2.2.2.1 i st = none) (hc : ab_cl y i 75 st = some (y', as, rest)) : At y pc ls st I J Q ↔ Cal y' as I J (fun v I' J' => At y (pc + 3) ls (v.toList ++ rest) I' J' Q) := by
  have key : ∀ n, ab_run (n + 1) y pc ls st (I, J, ab_RF, 75) = (ab_run n y' 0 (ab_en (ab_row y').2.2.1 as) [] (I, J, ab_RF, 75)).bind (fun r => if ab_cb y' ls rest (I, J, ab_RF, 75) r.2 = true then ab_run n y (pc + 3) ls (r.1.toList ++ rest) r.2 else none) := by
    intro n
    rw [ab_run, hi]
    dsimp only
    rw [hr]
    dsimp only
    rw [hc]
  constructor
  · rintro ⟨n, v1, I1, J1, h, q⟩
    cases n with
    | zero => cases h
    | succ n =>
      rw [key, Option.bind_eq_some_iff] at h
      obtain ⟨⟨v2, I2, J2, R2, n2⟩, h1, h2⟩ := h
      dsimp only at h2
      split at h2
      · rename_i hcb
        unfold ab_cb at hcb
        rw [hni] at hcb
        have e1 : (R2, n2) = (ab_RF, 75) := of_decide_eq_true hcb
        cases e1
        exact ⟨n, v2, I2, J2, h1, n, v1, I1, J1, h2, q⟩
      · cases h2
  · rintro ⟨n1, v1, I1, J1, h1, n2, v2, I2, J2, h2, q⟩
    refine ⟨n1 + n2 + 1, v2, I2, J2, ?_, q⟩
    rw [key, ab_upk n2 h1]
    show (if ab_cb y' ls rest (I, J, ab_RF, 75) (I1, J1, ab_RF, 75) = true then _ else none) = _
    rw [if_pos (by simp [ab_cb, hni]), Nat.add_comm n1 n2]
    exact ab_upk n1 h2
/-- a stack instruction -/
theorem At_op {st2 : List Value} (hi : ab_ins y pc = some i) (hr : ab_rt (ab_row y).2.2.2.1 i st = none) (hc : ab_cl y i 75 st = none) (ho : ab_op i st = some st2) : At y pc ls st I J Q ↔ At y (pc + ab_sz i) ls st2 I J Q :=
  At_ex hi hr hc (by unfold ab_ex; rw [ho])
theorem At_opc {st2 : List Value} {P : Prop} [Decidable P] (hi : ab_ins y pc = some i) (hr : ab_rt (ab_row y).2.2.2.1 i st = none) (hc : ab_cl y i 75 st = none) (ho : ab_op i st = if P then none else some st2) (hl : ab_lo i ls st = none) (hb : ab_br i st = none) (hh : ab_he (ab_own y) ((ab_row y).1.name == "<init>") i st (I, J, ab_RF, 75) = none) (hw : ab_nw (ab_own y) i ls st (I, J, ab_RF, 75) = none) : At y pc ls st I J Q ↔ ¬ P ∧ At y (pc + ab_sz i) ls st2 I J Q := by
  by_cases hP : P
  · exact iff_of_false (At_no hi hr hc (by unfold ab_ex; rw [ho, if_pos hP, hl, hb, hh, hw])) (fun q => q.1 hP)
  · rw [At_op hi hr hc (ho.trans (if_neg hP))]
    exact ⟨fun q => ⟨hP, q⟩, fun q => q.2⟩
/-- a local's instruction -/
theorem At_lo (hi : ab_ins y pc = some i) (hr : ab_rt (ab_row y).2.2.2.1 i st = none) (hc : ab_cl y i 75 st = none) (ho : ab_op i st = none) (hl : ab_lo i ls st = some (ls', st')) : At y pc ls st I J Q ↔ At y (pc + ab_sz i) ls' st' I J Q :=
  At_ex hi hr hc (by unfold ab_ex; rw [ho]; dsimp only; rw [hl])
/-- a jump -/
theorem At_br {P : Prop} [Decidable P] {o : Int} (hi : ab_ins y pc = some i) (hr : ab_rt (ab_row y).2.2.2.1 i st = none) (hc : ab_cl y i 75 st = none) (ho : ab_op i st = none) (hl : ab_lo i ls st = none) (hb : ab_br i st = some (decide P, o, st')) (h0 : 0 ≤ (pc : Int) + o) : At y pc ls st I J Q ↔ if P then At y (ab_tg pc o) ls st' I J Q else At y (pc + ab_sz i) ls st' I J Q := by
  rw [At_ex (pc' := if decide P = true then ab_tg pc o else pc + ab_sz i) (ls' := ls) (st' := st') (I' := I) (J' := J) hi hr hc (by unfold ab_ex; rw [ho]; dsimp only; rw [hl]; dsimp only; rw [hb]; dsimp only; rw [if_pos h0])]
  by_cases hP : P
  · rw [if_pos hP, if_pos (decide_eq_true hP)]
  · rw [if_neg hP, if_neg (by simpa only [decide_eq_true_eq] using hP)]
theorem At_gt {o : Int} (hi : ab_ins y pc = some i) (hr : ab_rt (ab_row y).2.2.2.1 i st = none) (hc : ab_cl y i 75 st = none) (ho : ab_op i st = none) (hl : ab_lo i ls st = none) (hb : ab_br i st = some (true, o, st')) (h0 : 0 ≤ (pc : Int) + o) : At y pc ls st I J Q ↔ At y (ab_tg pc o) ls st' I J Q :=
  At_ex hi hr hc (by unfold ab_ex; rw [ho]; dsimp only; rw [hl]; dsimp only; rw [hb]; dsimp only; rw [if_pos h0]; rfl)
/-- a cell's instruction -/
theorem At_he (hi : ab_ins y pc = some i) (hr : ab_rt (ab_row y).2.2.2.1 i st = none) (hc : ab_cl y i 75 st = none) (ho : ab_op i st = none) (hl : ab_lo i ls st = none) (hb : ab_br i st = none) (hh : ab_he (ab_own y) ((ab_row y).1.name == "<init>") i st (I, J, ab_RF, 75) = some (st', (I', J', ab_RF, 75))) : At y pc ls st I J Q ↔ At y (pc + ab_sz i) ls st' I' J' Q :=
  At_ex hi hr hc (by unfold ab_ex; rw [ho]; dsimp only; rw [hl]; dsimp only; rw [hb]; dsimp only; rw [hh])
theorem At_hec {P : Prop} [Decidable P] (hi : ab_ins y pc = some i) (hr : ab_rt (ab_row y).2.2.2.1 i st = none) (hc : ab_cl y i 75 st = none) (ho : ab_op i st = none) (hl : ab_lo i ls st = none) (hb : ab_br i st = none) (hh : ab_he (ab_own y) ((ab_row y).1.name == "<init>") i st (I, J, ab_RF, 75) = if P then some (st', (I', J', ab_RF, 75)) else none) (hw : ab_nw (ab_own y) i ls st (I, J, ab_RF, 75) = none) : At y pc ls st I J Q ↔ P ∧ At y (pc + ab_sz i) ls st' I' J' Q := by
  by_cases hP : P
  · rw [At_he hi hr hc ho hl hb (hh.trans (if_pos hP))]
    exact ⟨fun q => ⟨hP, q⟩, fun q => q.2⟩
  · exact iff_of_false (At_no hi hr hc (by unfold ab_ex; rw [ho]; dsimp only; rw [hl]; dsimp only; rw [hb]; dsimp only; rw [hh, if_neg hP]; dsimp only; rw [hw])) (fun q => hP q.1)
theorem At_zr {x : Int32} (hi : ab_ins y pc = some .ireturn) (hr : (ab_row y).2.2.2.1 = some .boolean) (hc : ab_cl y .ireturn 75 [.int x] = none) : At y pc ls [.int x] I J Q ↔ (x = 0 ∨ x = 1) ∧ Q (some (.int x)) I J := by
  by_cases hP : x = 0 ∨ x = 1
  · rw [At_rt (v := some (.int x)) hi (by rw [hr]; show (if x = 0 ∨ x = 1 then some (some (Value.int x)) else none) = _; rw [if_pos hP])]
    exact ⟨fun q => ⟨hP, q⟩, fun q => q.2⟩
  · exact iff_of_false (At_no hi (by rw [hr]; show (if x = 0 ∨ x = 1 then some (some (Value.int x)) else none) = _; rw [if_neg hP]) hc (by unfold ab_ex; rfl)) (fun q => hP q.1)
/-- what a call asks for that stands in the tables -/
def ab_gs (kd y y' nest : Nat) : Bool :=
  let q := ab_row y'
  decide (q.2.2.2.2.2.2.1 < (ab_row y).2.2.2.2.2.2.1) && (q.2.2.2.2.2.1 == (kd == 1)) && ((q.1.name == "<init>") == (kd == 2)) && (kd != 0 || nest == 0) && (kd != 2)
theorem At_c2 {y' t nest q j kd : Nat} {as rest : List Value} (hi : ab_ins y pc = some (if kd = 1 then .invokestatic j else .invokevirtual j)) (hm : ab_md (ab_own y) j = some (t, nest, q)) (ht : ab_to y t = some y') (hs : (decide (t < 1000) && decide (kd ≤ 1) && ab_gs kd y y' nest && decide (as.length = (ab_row y').2.2.2.2.1 + (if kd = 1 then 0 else 1))) = true) (hst : st = as.reverse ++ rest) (hdyn : (decide ((rest.map (fun v => v.category)).sum ≤ 8) && (kd == 1 || ab_rc (ab_own y') 75 as) && decide ((ab_ea as).length ≤ (ab_row y').2.2.1)) = true) (hr : ab_rt (ab_row y).2.2.2.1 (if kd = 1 then .invokestatic j else .invokevirtual j) st = none) : At y pc ls st I J Q ↔ Cal y' as I J (fun v I' J' => At y (pc + 3) ls (v.toList ++ rest) I' J' Q) := by
  simp only [Bool.and_eq_true, decide_eq_true_eq, ab_gs, beq_iff_eq, bne_iff_ne] at hs hdyn
  obtain ⟨⟨⟨h1, h2⟩, ⟨⟨⟨g1, g2⟩, g3⟩, g4⟩, g5⟩, h3⟩ := hs
  have hgo : ab_go y kd j 75 st = some (y', as, rest) := by
    have e1 : ab_na kd y' = as.length := h3.symm
    have e2 : (st.take (ab_na kd y')).reverse = as := by rw [hst, e1, ← List.length_reverse (as := as), List.take_left, List.reverse_reverse]
    have e3 : st.drop (ab_na kd y') = rest := by rw [hst, e1, ← List.length_reverse (as := as), List.drop_left]
    have hg : ab_gd kd y y' nest 75 as rest = true := by
      simp only [ab_gd, Bool.and_eq_true, decide_eq_true_eq, beq_iff_eq]
      exact ⟨⟨⟨⟨⟨⟨⟨h3, g1⟩, hdyn.1.1⟩, g2⟩, g3⟩, hdyn.1.2⟩, g4⟩, hdyn.2⟩
    unfold ab_go
    rw [hm]
    dsimp only
    rw [ht]
    dsimp only
    rw [e2, e3, if_pos ⟨h1, hg⟩]
  refine At_cl ?_ hi hr ?_
  · rw [g3]
    simp only [beq_eq_false_iff_ne]
    exact g5
  · by_cases hk : kd = 1
    · subst hk
      exact hgo
    · have hk0 : kd = 0 := by omega
      subst hk0
      exact hgo
/-- a contract out of a run -/
theorem Cal_iff {as : List Value} {v : Option Value} (h : Cal y as I J (fun v' I1 J1 => v' = v ∧ I1 = I' ∧ J1 = J')) : Cal y as I J Q ↔ Q v I' J' := by
  obtain ⟨n, v1, I1, J1, h1, rfl, rfl, rfl⟩ := h
  constructor
  · rintro ⟨n2, v2, I2, J2, h2, q⟩
    have e1 := ab_upk n2 h1
    have e2 := ab_upk n h2
    rw [Nat.add_comm] at e2
    rw [e1] at e2
    cases e2
    exact q
  · intro q
    exact ⟨n, v1, I1, J1, h1, q⟩
end AT
def ab_nv (o : Option Value) : Option Value := if ab_ca o then none else o
theorem nl_i (x : Int32) : ab_nv (some (.int x)) = some (.int x) := rfl
theorem nl_r (x : Nat) : ab_nv (some (.ref x)) = some (.ref x) := rfl
theorem nl_l (x : Int64) : ab_nv (some (.long x)) = none := rfl
theorem nl_n : ab_nv none = none := rfl
section AR
variable {y pc : Nat} {ls ls' : ab_L} {st : List Value} {I : ab_I} {J : ab_J} {Q : Option Value → ab_I → ab_J → Prop} {x x1 x2 : Int32} {u u1 : Int64} {r r1 k f j : Nat}
theorem A_iconst {n : Int} {v : Int32} (hi : ab_ins y pc = some (.iconst n)) (hv : Int32.ofInt n = v) : At y pc ls st I J Q ↔ At y (pc + 1) ls (.int v :: st) I J Q := At_op (i := .iconst n) hi rfl rfl (congrArg (fun c => some (Value.int c :: st)) hv)
theorem A_bipush {n : Int} {v : Int32} (hi : ab_ins y pc = some (.bipush n)) (hv : (Int8.ofInt n).toInt32 = v) : At y pc ls st I J Q ↔ At y (pc + 2) ls (.int v :: st) I J Q := At_op (i := .bipush n) hi rfl rfl (congrArg (fun c => some (Value.int c :: st)) hv)
theorem A_sipush {n : Int} {v : Int32} (hi : ab_ins y pc = some (.sipush n)) (hv : (Int16.ofInt n).toInt32 = v) : At y pc ls st I J Q ↔ At y (pc + 3) ls (.int v :: st) I J Q := At_op (i := .sipush n) hi rfl rfl (congrArg (fun c => some (Value.int c :: st)) hv)
theorem A_lconst {n : Fin 2} {v : Int64} (hi : ab_ins y pc = some (.lconst n)) (hv : Int64.ofNat (n : Nat) = v) : At y pc ls st I J Q ↔ At y (pc + 1) ls (.long v :: st) I J Q := At_op (i := .lconst n) hi rfl rfl (congrArg (fun c => some (Value.long c :: st)) hv)
theorem A_iadd (hi : ab_ins y pc = some .iadd) : At y pc ls (.int x1 :: .int x :: st) I J Q ↔ At y (pc + 1) ls (.int (x + x1) :: st) I J Q := At_op (i := .iadd) hi rfl rfl rfl
theorem A_isub (hi : ab_ins y pc = some .isub) : At y pc ls (.int x1 :: .int x :: st) I J Q ↔ At y (pc + 1) ls (.int (x - x1) :: st) I J Q := At_op (i := .isub) hi rfl rfl rfl
theorem A_imul (hi : ab_ins y pc = some .imul) : At y pc ls (.int x1 :: .int x :: st) I J Q ↔ At y (pc + 1) ls (.int (x * x1) :: st) I J Q := At_op (i := .imul) hi rfl rfl rfl
theorem A_iand (hi : ab_ins y pc = some .iand) : At y pc ls (.int x1 :: .int x :: st) I J Q ↔ At y (pc + 1) ls (.int (x &&& x1) :: st) I J Q := At_op (i := .iand) hi rfl rfl rfl
theorem A_ior (hi : ab_ins y pc = some .ior) : At y pc ls (.int x1 :: .int x :: st) I J Q ↔ At y (pc + 1) ls (.int (x ||| x1) :: st) I J Q := At_op (i := .ior) hi rfl rfl rfl
theorem A_ixor (hi : ab_ins y pc = some .ixor) : At y pc ls (.int x1 :: .int x :: st) I J Q ↔ At y (pc + 1) ls (.int (x ^^^ x1) :: st) I J Q := At_op (i := .ixor) hi rfl rfl rfl
theorem A_ishl (hi : ab_ins y pc = some .ishl) : At y pc ls (.int x1 :: .int x :: st) I J Q ↔ At y (pc + 1) ls (.int (x <<< (x1 &&& 31)) :: st) I J Q := At_op (i := .ishl) hi rfl rfl rfl
theorem A_ishr (hi : ab_ins y pc = some .ishr) : At y pc ls (.int x1 :: .int x :: st) I J Q ↔ At y (pc + 1) ls (.int (x >>> (x1 &&& 31)) :: st) I J Q := At_op (i := .ishr) hi rfl rfl rfl
theorem A_iushr (hi : ab_ins y pc = some .iushr) : At y pc ls (.int x1 :: .int x :: st) I J Q ↔ At y (pc + 1) ls (.int ((x.toUInt32 >>> (x1.toUInt32 &&& Int32.toUInt32 31)).toInt32) :: st) I J Q := At_op (i := .iushr) hi rfl rfl rfl
theorem A_idiv (hi : ab_ins y pc = some .idiv) : At y pc ls (.int x1 :: .int x :: st) I J Q ↔ ¬ x1 = 0 ∧ At y (pc + 1) ls (.int (x / x1) :: st) I J Q := At_opc (i := .idiv) hi rfl rfl rfl rfl rfl rfl rfl
theorem A_irem (hi : ab_ins y pc = some .irem) : At y pc ls (.int x1 :: .int x :: st) I J Q ↔ ¬ x1 = 0 ∧ At y (pc + 1) ls (.int (x - x / x1 * x1) :: st) I J Q := At_opc (i := .irem) hi rfl rfl rfl rfl rfl rfl rfl
theorem A_ladd (hi : ab_ins y pc = some .ladd) : At y pc ls (.long u1 :: .long u :: st) I J Q ↔ At y (pc + 1) ls (.long (u + u1) :: st) I J Q := At_op (i := .ladd) hi rfl rfl rfl
theorem A_lsub (hi : ab_ins y pc = some .lsub) : At y pc ls (.long u1 :: .long u :: st) I J Q ↔ At y (pc + 1) ls (.long (u - u1) :: st) I J Q := At_op (i := .lsub) hi rfl rfl rfl
theorem A_lmul (hi : ab_ins y pc = some .lmul) : At y pc ls (.long u1 :: .long u :: st) I J Q ↔ At y (pc + 1) ls (.long (u * u1) :: st) I J Q := At_op (i := .lmul) hi rfl rfl rfl
theorem A_ldiv (hi : ab_ins y pc = some .ldiv) : At y pc ls (.long u1 :: .long u :: st) I J Q ↔ ¬ u1 = 0 ∧ At y (pc + 1) ls (.long (u / u1) :: st) I J Q := At_opc (i := .ldiv) hi rfl rfl rfl rfl rfl rfl rfl
theorem A_lrem (hi : ab_ins y pc = some .lrem) : At y pc ls (.long u1 :: .long u :: st) I J Q ↔ ¬ u1 = 0 ∧ At y (pc + 1) ls (.long (u - u / u1 * u1) :: st) I J Q := At_opc (i := .lrem) hi rfl rfl rfl rfl rfl rfl rfl
theorem A_lneg (hi : ab_ins y pc = some .lneg) : At y pc ls (.long u :: st) I J Q ↔ At y (pc + 1) ls (.long (-u) :: st) I J Q := At_op (i := .lneg) hi rfl rfl rfl
theorem A_lcmp (hi : ab_ins y pc = some .lcmp) : At y pc ls (.long u1 :: .long u :: st) I J Q ↔ At y (pc + 1) ls (.int (lg_cmp u u1) :: st) I J Q := At_op (i := .lcmp) hi rfl rfl rfl
theorem A_i2l (hi : ab_ins y pc = some .i2l) : At y pc ls (.int x :: st) I J Q ↔ At y (pc + 1) ls (.long x.toInt64 :: st) I J Q := At_op (i := .i2l) hi rfl rfl rfl
theorem A_l2i (hi : ab_ins y pc = some .l2i) : At y pc ls (.long u :: st) I J Q ↔ At y (pc + 1) ls (.int u.toInt32 :: st) I J Q := At_op (i := .l2i) hi rfl rfl rfl
theorem A_i2b (hi : ab_ins y pc = some .i2b) : At y pc ls (.int x :: st) I J Q ↔ At y (pc + 1) ls (.int x.toInt8.toInt32 :: st) I J Q := At_op (i := .i2b) hi rfl rfl rfl
theorem A_i2s (hi : ab_ins y pc = some .i2s) : At y pc ls (.int x :: st) I J Q ↔ At y (pc + 1) ls (.int x.toInt16.toInt32 :: st) I J Q := At_op (i := .i2s) hi rfl rfl rfl
theorem A_dupI (hi : ab_ins y pc = some .dup) : At y pc ls (.int x :: st) I J Q ↔ At y (pc + 1) ls (.int x :: .int x :: st) I J Q := At_op (i := .dup) hi rfl rfl rfl
theorem A_dupA (hi : ab_ins y pc = some .dup) : At y pc ls (.ref r :: st) I J Q ↔ At y (pc + 1) ls (.ref r :: .ref r :: st) I J Q := At_op (i := .dup) hi rfl rfl rfl
theorem A_dup2 (hi : ab_ins y pc = some .dup2) : At y pc ls (.int x :: .ref r :: st) I J Q ↔ At y (pc + 1) ls (.int x :: .ref r :: .int x :: .ref r :: st) I J Q := At_op (i := .dup2) hi rfl rfl rfl
theorem A_popI (hi : ab_ins y pc = some .pop) : At y pc ls (.int x :: st) I J Q ↔ At y (pc + 1) ls st I J Q := At_op (i := .pop) hi rfl rfl rfl
theorem A_iload_n {q : Fin 4} (hi : ab_ins y pc = some (.iload_n q)) (hg : ab_lg ls q = some (.int x)) : At y pc ls st I J Q ↔ At y (pc + 1) ls (.int x :: st) I J Q := At_lo (i := .iload_n q) hi rfl rfl rfl (by unfold ab_lo; dsimp only; rw [hg])
theorem A_iload {q : Nat} (hi : ab_ins y pc = some (.iload q)) (hg : ab_lg ls q = some (.int x)) : At y pc ls st I J Q ↔ At y (pc + 2) ls (.int x :: st) I J Q := At_lo (i := .iload q) hi rfl rfl rfl (by unfold ab_lo; dsimp only; rw [hg])
theorem A_lload_n {q : Fin 4} (hi : ab_ins y pc = some (.lload_n q)) (hg : ab_lg ls q = some (.long u)) : At y pc ls st I J Q ↔ At y (pc + 1) ls (.long u :: st) I J Q := At_lo (i := .lload_n q) hi rfl rfl rfl (by unfold ab_lo; dsimp only; rw [hg])
theorem A_lload {q : Nat} (hi : ab_ins y pc = some (.lload q)) (hg : ab_lg ls q = some (.long u)) : At y pc ls st I J Q ↔ At y (pc + 2) ls (.long u :: st) I J Q := At_lo (i := .lload q) hi rfl rfl rfl (by unfold ab_lo; dsimp only; rw [hg])
theorem A_aload_n {q : Fin 4} (hi : ab_ins y pc = some (.aload_n q)) (hg : ab_lg ls q = some (.ref r)) : At y pc ls st I J Q ↔ At y (pc + 1) ls (.ref r :: st) I J Q := At_lo (i := .aload_n q) hi rfl rfl rfl (by unfold ab_lo; dsimp only; rw [hg])
theorem A_aload {q : Nat} (hi : ab_ins y pc = some (.aload q)) (hg : ab_lg ls q = some (.ref r)) : At y pc ls st I J Q ↔ At y (pc + 2) ls (.ref r :: st) I J Q := At_lo (i := .aload q) hi rfl rfl rfl (by unfold ab_lo; dsimp only; rw [hg])
theorem A_istore_n {q : Fin 4} (hi : ab_ins y pc = some (.istore_n q)) (hq : (q : Nat) < ls.length) (hg : ab_s1 ls q (.int x) = ls') : At y pc ls (.int x :: st) I J Q ↔ At y (pc + 1) ls' st I J Q := At_lo (i := .istore_n q) hi rfl rfl rfl (by unfold ab_lo; dsimp only; rw [if_pos hq, hg])
theorem A_istore {q : Nat} (hi : ab_ins y pc = some (.istore q)) (hq : q < ls.length) (hg : ab_s1 ls q (.int x) = ls') : At y pc ls (.int x :: st) I J Q ↔ At y (pc + 2) ls' st I J Q := At_lo (i := .istore q) hi rfl rfl rfl (by unfold ab_lo; dsimp only; rw [if_pos hq, hg])
theorem A_lstore_n {q : Fin 4} (hi : ab_ins y pc = some (.lstore_n q)) (hq : (q : Nat) + 1 < ls.length) (hg : ab_s2 ls q (.long u) = ls') : At y pc ls (.long u :: st) I J Q ↔ At y (pc + 1) ls' st I J Q := At_lo (i := .lstore_n q) hi rfl rfl rfl (by unfold ab_lo; dsimp only; rw [if_pos hq, hg])
theorem A_lstore {q : Nat} (hi : ab_ins y pc = some (.lstore q)) (hq : q + 1 < ls.length) (hg : ab_s2 ls q (.long u) = ls') : At y pc ls (.long u :: st) I J Q ↔ At y (pc + 2) ls' st I J Q := At_lo (i := .lstore q) hi rfl rfl rfl (by unfold ab_lo; dsimp only; rw [if_pos hq, hg])
theorem A_astore_n {q : Fin 4} (hi : ab_ins y pc = some (.astore_n q)) (hq : (q : Nat) < ls.length) (hg : ab_s1 ls q (.ref r) = ls') : At y pc ls (.ref r :: st) I J Q ↔ At y (pc + 1) ls' st I J Q := At_lo (i := .astore_n q) hi rfl rfl rfl (by unfold ab_lo; dsimp only; rw [if_pos hq, hg])
theorem A_iinc {q : Nat} {n : Int} {v : Int32} (hi : ab_ins y pc = some (.iinc q n)) (hv : Int32.ofInt n = v) (hq : q < ls.length) (hx : ab_lg ls q = some (.int x)) (hg : ab_s1 ls q (.int (x + v)) = ls') : At y pc ls st I J Q ↔ At y (pc + 3) ls' st I J Q := At_lo (i := .iinc q n) hi rfl rfl rfl (by unfold ab_lo; dsimp only; rw [hx]; dsimp only; rw [if_pos hq, hv, hg])
theorem A_goto {o : Int} {t : Nat} (hi : ab_ins y pc = some (.goto o)) (ht : 0 ≤ (pc : Int) + o ∧ ab_tg pc o = t) : At y pc ls st I J Q ↔ At y t ls st I J Q := by rw [← ht.2]; exact At_gt (i := .goto o) hi rfl rfl rfl rfl rfl ht.1
theorem A_ifCond_eq {o : Int} {t : Nat} (hi : ab_ins y pc = some (.ifCond .eq o)) (ht : 0 ≤ (pc : Int) + o ∧ ab_tg pc o = t) : At y pc ls (.int x :: st) I J Q ↔ if x = 0 then At y t ls st I J Q else At y (pc + 3) ls st I J Q := by rw [← ht.2]; exact At_br (i := .ifCond .eq o) hi rfl rfl rfl rfl rfl ht.1
theorem A_if_icmp_eq {o : Int} {t : Nat} (hi : ab_ins y pc = some (.if_icmp .eq o)) (ht : 0 ≤ (pc : Int) + o ∧ ab_tg pc o = t) : At y pc ls (.int x1 :: .int x :: st) I J Q ↔ if x = x1 then At y t ls st I J Q else At y (pc + 3) ls st I J Q := by rw [← ht.2]; exact At_br (i := .if_icmp .eq o) hi rfl rfl rfl rfl rfl ht.1
theorem A_ifCond_ne {o : Int} {t : Nat} (hi : ab_ins y pc = some (.ifCond .ne o)) (ht : 0 ≤ (pc : Int) + o ∧ ab_tg pc o = t) : At y pc ls (.int x :: st) I J Q ↔ if ¬ x = 0 then At y t ls st I J Q else At y (pc + 3) ls st I J Q := by rw [← ht.2]; exact At_br (i := .ifCond .ne o) hi rfl rfl rfl rfl rfl ht.1
theorem A_if_icmp_ne {o : Int} {t : Nat} (hi : ab_ins y pc = some (.if_icmp .ne o)) (ht : 0 ≤ (pc : Int) + o ∧ ab_tg pc o = t) : At y pc ls (.int x1 :: .int x :: st) I J Q ↔ if ¬ x = x1 then At y t ls st I J Q else At y (pc + 3) ls st I J Q := by rw [← ht.2]; exact At_br (i := .if_icmp .ne o) hi rfl rfl rfl rfl rfl ht.1
theorem A_ifCond_lt {o : Int} {t : Nat} (hi : ab_ins y pc = some (.ifCond .lt o)) (ht : 0 ≤ (pc : Int) + o ∧ ab_tg pc o = t) : At y pc ls (.int x :: st) I J Q ↔ if x < 0 then At y t ls st I J Q else At y (pc + 3) ls st I J Q := by rw [← ht.2]; exact At_br (i := .ifCond .lt o) hi rfl rfl rfl rfl rfl ht.1
theorem A_if_icmp_lt {o : Int} {t : Nat} (hi : ab_ins y pc = some (.if_icmp .lt o)) (ht : 0 ≤ (pc : Int) + o ∧ ab_tg pc o = t) : At y pc ls (.int x1 :: .int x :: st) I J Q ↔ if x < x1 then At y t ls st I J Q else At y (pc + 3) ls st I J Q := by rw [← ht.2]; exact At_br (i := .if_icmp .lt o) hi rfl rfl rfl rfl rfl ht.1
theorem A_ifCond_ge {o : Int} {t : Nat} (hi : ab_ins y pc = some (.ifCond .ge o)) (ht : 0 ≤ (pc : Int) + o ∧ ab_tg pc o = t) : At y pc ls (.int x :: st) I J Q ↔ if 0 ≤ x then At y t ls st I J Q else At y (pc + 3) ls st I J Q := by rw [← ht.2]; exact At_br (i := .ifCond .ge o) hi rfl rfl rfl rfl rfl ht.1
theorem A_if_icmp_ge {o : Int} {t : Nat} (hi : ab_ins y pc = some (.if_icmp .ge o)) (ht : 0 ≤ (pc : Int) + o ∧ ab_tg pc o = t) : At y pc ls (.int x1 :: .int x :: st) I J Q ↔ if x1 ≤ x then At y t ls st I J Q else At y (pc + 3) ls st I J Q := by rw [← ht.2]; exact At_br (i := .if_icmp .ge o) hi rfl rfl rfl rfl rfl ht.1
theorem A_ifCond_gt {o : Int} {t : Nat} (hi : ab_ins y pc = some (.ifCond .gt o)) (ht : 0 ≤ (pc : Int) + o ∧ ab_tg pc o = t) : At y pc ls (.int x :: st) I J Q ↔ if 0 < x then At y t ls st I J Q else At y (pc + 3) ls st I J Q := by rw [← ht.2]; exact At_br (i := .ifCond .gt o) hi rfl rfl rfl rfl rfl ht.1
theorem A_if_icmp_gt {o : Int} {t : Nat} (hi : ab_ins y pc = some (.if_icmp .gt o)) (ht : 0 ≤ (pc : Int) + o ∧ ab_tg pc o = t) : At y pc ls (.int x1 :: .int x :: st) I J Q ↔ if x1 < x then At y t ls st I J Q else At y (pc + 3) ls st I J Q := by rw [← ht.2]; exact At_br (i := .if_icmp .gt o) hi rfl rfl rfl rfl rfl ht.1
theorem A_ifCond_le {o : Int} {t : Nat} (hi : ab_ins y pc = some (.ifCond .le o)) (ht : 0 ≤ (pc : Int) + o ∧ ab_tg pc o = t) : At y pc ls (.int x :: st) I J Q ↔ if x ≤ 0 then At y t ls st I J Q else At y (pc + 3) ls st I J Q := by rw [← ht.2]; exact At_br (i := .ifCond .le o) hi rfl rfl rfl rfl rfl ht.1
theorem A_if_icmp_le {o : Int} {t : Nat} (hi : ab_ins y pc = some (.if_icmp .le o)) (ht : 0 ≤ (pc : Int) + o ∧ ab_tg pc o = t) : At y pc ls (.int x1 :: .int x :: st) I J Q ↔ if x ≤ x1 then At y t ls st I J Q else At y (pc + 3) ls st I J Q := by rw [← ht.2]; exact At_br (i := .if_icmp .le o) hi rfl rfl rfl rfl rfl ht.1
theorem A_iret (hi : ab_ins y pc = some .ireturn) (hr : (ab_row y).2.2.2.1 = some .int) : At y pc ls [.int x] I J Q ↔ Q (some (.int x)) I J := At_rt (i := .ireturn) hi (by rw [hr]; rfl)
theorem A_zret (hi : ab_ins y pc = some .ireturn) (hr : (ab_row y).2.2.2.1 = some .boolean) : At y pc ls [.int x] I J Q ↔ (x = 0 ∨ x = 1) ∧ Q (some (.int x)) I J := At_zr hi hr rfl
theorem A_lret (hi : ab_ins y pc = some .lreturn) (hr : (ab_row y).2.2.2.1 = some .long) : At y pc ls [.long u] I J Q ↔ Q (some (.long u)) I J := At_rt (i := .lreturn) hi (by rw [hr]; rfl)
theorem A_vret (hi : ab_ins y pc = some .return_) (hr : (ab_row y).2.2.2.1 = none) : At y pc ls [] I J Q ↔ Q none I J := At_rt (i := .return_) hi (by rw [hr]; rfl)
theorem A_ldc_w {v : Int32} {q : Nat} {o : Nat} (hi : ab_ins y pc = some (.ldc_w j)) (ho : ab_own y = o) (hk : ab_kd o j = some (v, q)) : At y pc ls st I J Q ↔ At y (pc + 3) ls (.int v :: st) I J Q := At_he (i := .ldc_w j) hi rfl rfl rfl rfl rfl (by unfold ab_he; dsimp only; rw [ho, hk]; rfl)
theorem A_ldc2_w {v : Int64} {q : Nat} {o : Nat} (hi : ab_ins y pc = some (.ldc2_w j)) (ho : ab_own y = o) (hk : ab_kD o j = some (v, q)) : At y pc ls st I J Q ↔ At y (pc + 3) ls (.long v :: st) I J Q := At_he (i := .ldc2_w j) hi rfl rfl rfl rfl rfl (by unfold ab_he; dsimp only; rw [ho, hk]; rfl)
theorem ab_io {y pc : Nat} {i : Instr} {c : List (Nat × Instr)} (h : ab_ct.getD y [] = c) (hl : c.lookup pc = some i) : ab_ins y pc = some i := by unfold ab_ins; rw [h]; exact hl
theorem A_getI {c q : Nat} {o : Nat} (hi : ab_ins y pc = some (.getfield j)) (ho : ab_own y = o) (hq : (ab_fd o j = some (c, f, q) ∧ ab_ly k = (0, c) ∧ k < 75) ∧ ab_fk c f = 0) : At y pc ls (.ref k :: st) I J Q ↔ At y (pc + 3) ls (.int (I k f) :: st) I J Q := At_he (i := .getfield j) hi rfl rfl rfl rfl rfl (by unfold ab_he; dsimp only; rw [ho, hq.1.1]; dsimp only; rw [if_pos hq.1.2, if_neg (by omega), if_neg (by omega), if_pos (by omega)])
theorem A_getZ {c q : Nat} {o : Nat} (hi : ab_ins y pc = some (.getfield j)) (ho : ab_own y = o) (hq : (ab_fd o j = some (c, f, q) ∧ ab_ly k = (0, c) ∧ k < 75) ∧ ab_fk c f = 1) : At y pc ls (.ref k :: st) I J Q ↔ At y (pc + 3) ls (.int (I k f) :: st) I J Q := At_he (i := .getfield j) hi rfl rfl rfl rfl rfl (by unfold ab_he; dsimp only; rw [ho, hq.1.1]; dsimp only; rw [if_pos hq.1.2, if_neg (by omega), if_neg (by omega), if_pos (by omega)])
theorem A_getJ {c q : Nat} {o : Nat} (hi : ab_ins y pc = some (.getfield j)) (ho : ab_own y = o) (hq : (ab_fd o j = some (c, f, q) ∧ ab_ly k = (0, c) ∧ k < 75) ∧ ab_fk c f = 2) : At y pc ls (.ref k :: st) I J Q ↔ At y (pc + 3) ls (.long (J k f) :: st) I J Q := At_he (i := .getfield j) hi rfl rfl rfl rfl rfl (by unfold ab_he; dsimp only; rw [ho, hq.1.1]; dsimp only; rw [if_pos hq.1.2, if_pos hq.2])
theorem A_getR {c q : Nat} {o : Nat} (hi : ab_ins y pc = some (.getfield j)) (ho : ab_own y = o) (hq : (ab_fd o j = some (c, f, q) ∧ ab_ly k = (0, c) ∧ k < 75) ∧ ab_fk c f = 3 ∧ ab_rf ab_RF k f = some r) : At y pc ls (.ref k :: st) I J Q ↔ At y (pc + 3) ls (.ref r :: st) I J Q := At_he (i := .getfield j) hi rfl rfl rfl rfl rfl (by unfold ab_he; dsimp only; rw [ho, hq.1.1]; dsimp only; rw [if_pos hq.1.2, if_neg (by omega), if_pos hq.2.1, hq.2.2])
theorem A_putI {c q : Nat} {o : Nat} (hi : ab_ins y pc = some (.putfield j)) (ho : ab_own y = o) (hq : (ab_fd o j = some (c, f, q) ∧ ab_ly k = (0, c) ∧ k < 75) ∧ ab_fk c f = 0) : At y pc ls (.int x :: .ref k :: st) I J Q ↔ At y (pc + 3) ls st (va_up I k (va_up (I k) f x)) J Q := At_he (i := .putfield j) hi rfl rfl rfl rfl rfl (by unfold ab_he; dsimp only; rw [ho, hq.1.1]; dsimp only; rw [if_pos ⟨hq.1.2.1, hq.1.2.2, Or.inl hq.2⟩])
theorem A_putZ {c q : Nat} {o : Nat} (hi : ab_ins y pc = some (.putfield j)) (ho : ab_own y = o) (hq : (ab_fd o j = some (c, f, q) ∧ ab_ly k = (0, c) ∧ k < 75) ∧ ab_fk c f = 1 ∧ (x = 0 ∨ x = 1)) : At y pc ls (.int x :: .ref k :: st) I J Q ↔ At y (pc + 3) ls st (va_up I k (va_up (I k) f x)) J Q := At_he (i := .putfield j) hi rfl rfl rfl rfl rfl (by unfold ab_he; dsimp only; rw [ho, hq.1.1]; dsimp only; rw [if_pos ⟨hq.1.2.1, hq.1.2.2, Or.inr hq.2⟩])
theorem A_putJ {c q : Nat} {o : Nat} (hi : ab_ins y pc = some (.putfield j)) (ho : ab_own y = o) (hq : (ab_fd o j = some (c, f, q) ∧ ab_ly k = (0, c) ∧ k < 75) ∧ ab_fk c f = 2) : At y pc ls (.long u :: .ref k :: st) I J Q ↔ At y (pc + 3) ls st I (va_up J k (va_up (J k) f u)) Q := At_he (i := .putfield j) hi rfl rfl rfl rfl rfl (by unfold ab_he; dsimp only; rw [ho, hq.1.1]; dsimp only; rw [if_pos ⟨hq.1.2.1, hq.1.2.2, hq.2⟩])
theorem A_iaload (hi : ab_ins y pc = some .iaload) : At y pc ls (.int x :: .ref r :: st) I J Q ↔ ((ab_ly r).1 = 1 ∧ r < 75 ∧ 0 ≤ x.toInt ∧ x.toInt < (ab_ly r).2) ∧ At y (pc + 1) ls (.int (I r x.toNatClampNeg) :: st) I J Q := At_hec (i := .iaload) hi rfl rfl rfl rfl rfl rfl rfl
theorem A_baload (hi : ab_ins y pc = some .baload) : At y pc ls (.int x :: .ref r :: st) I J Q ↔ ((ab_ly r).1 = 3 ∧ r < 75 ∧ 0 ≤ x.toInt ∧ x.toInt < (ab_ly r).2) ∧ At y (pc + 1) ls (.int (I r x.toNatClampNeg) :: st) I J Q := At_hec (i := .baload) hi rfl rfl rfl rfl rfl rfl rfl
theorem A_laload (hi : ab_ins y pc = some .laload) : At y pc ls (.int x :: .ref r :: st) I J Q ↔ ((ab_ly r).1 = 2 ∧ r < 75 ∧ 0 ≤ x.toInt ∧ x.toInt < (ab_ly r).2) ∧ At y (pc + 1) ls (.long (J r x.toNatClampNeg) :: st) I J Q := At_hec (i := .laload) hi rfl rfl rfl rfl rfl rfl rfl
theorem A_iastore (hi : ab_ins y pc = some .iastore) : At y pc ls (.int x1 :: .int x :: .ref r :: st) I J Q ↔ ((ab_ly r).1 = 1 ∧ r < 75 ∧ 0 ≤ x.toInt ∧ x.toInt < (ab_ly r).2) ∧ At y (pc + 1) ls st (va_up I r (va_up (I r) x.toNatClampNeg x1)) J Q := At_hec (i := .iastore) hi rfl rfl rfl rfl rfl rfl rfl
theorem A_lastore (hi : ab_ins y pc = some .lastore) : At y pc ls (.long u :: .int x :: .ref r :: st) I J Q ↔ ((ab_ly r).1 = 2 ∧ r < 75 ∧ 0 ≤ x.toInt ∧ x.toInt < (ab_ly r).2) ∧ At y (pc + 1) ls st I (va_up J r (va_up (J r) x.toNatClampNeg u)) Q := At_hec (i := .lastore) hi rfl rfl rfl rfl rfl rfl rfl
theorem A_bastore (hi : ab_ins y pc = some .bastore) : At y pc ls (.int x1 :: .int x :: .ref r :: st) I J Q ↔ ((x1 = 0 ∨ x1 = 1) ∧ (ab_ly r).1 = 3 ∧ r < 75 ∧ 0 ≤ x.toInt ∧ x.toInt < (ab_ly r).2) ∧ At y (pc + 1) ls st (va_up I r (va_up (I r) x.toNatClampNeg x1)) J Q := At_hec (i := .bastore) hi rfl rfl rfl rfl rfl rfl rfl
/-- a call by its rows of the tables; its receiver's cell (for a virtual one) is rk -/
def ab_qc (y pc kd j y' na ea rk : Nat) : Bool := match ab_md (ab_own y) j with
  | some (t, nest, _) => decide (ab_to y t = some y') && decide (t < 1000) && decide (kd ≤ 1) && ab_gs kd y y' nest && decide (na = (ab_row y').2.2.2.2.1 + (if kd = 1 then 0 else 1)) && decide (ea ≤ (ab_row y').2.2.1) && (kd == 1 || ab_ly rk == (0, ab_own y')) && (kd == 1 || decide (rk < 75)) && decide (ab_ins y pc = some (if kd = 1 then .invokestatic j else .invokevirtual j))
  | none => false
theorem A_cal {kd y' na ea rk : Nat} {as rest : List Value} (hq : ab_qc y pc kd j y' na ea rk = true) (hst : st = as.reverse ++ rest) (hna : as.length = na) (hea : (ab_ea as).length = ea) (hrk : kd = 1 ∨ as.head? = some (.ref rk)) (h8 : (rest.map (fun v => v.category)).sum ≤ 8) : At y pc ls st I J Q ↔ Cal y' as I J (fun v I' J' => At y (pc + 3) ls (v.toList ++ rest) I' J' Q) := by
  unfold ab_qc at hq
  split at hq
  · rename_i t nest q hm
    simp only [Bool.and_eq_true, decide_eq_true_eq] at hq
    obtain ⟨⟨⟨⟨⟨⟨⟨⟨h1, h2⟩, h3⟩, h4⟩, h5⟩, h6⟩, h7⟩, h7b⟩, h8b⟩ := hq
    refine At_c2 (j := j) (kd := kd) h8b hm h1 ?_ hst ?_ ?_
    · simp only [Bool.and_eq_true, decide_eq_true_eq]
      exact ⟨⟨⟨h2, h3⟩, h4⟩, hna.trans h5⟩
    · simp only [Bool.and_eq_true, decide_eq_true_eq, Bool.or_eq_true]
      refine ⟨⟨h8, ?_⟩, by omega⟩
      rcases hrk with hk | hk
      · exact Or.inl (by rw [hk]; rfl)
      · rcases Bool.or_eq_true_iff.mp h7 with z | z
        · exact Or.inl z
        · rcases Bool.or_eq_true_iff.mp h7b with z2 | z2
          · exact Or.inl z2
          · right
            cases as with
            | nil => cases hk
            | cons w as' =>
              cases hk
              show (ab_ly rk == (0, ab_own y') && decide (rk < 75)) = true
              rw [z, z2]; rfl
    · by_cases hk : kd = 1
      · rw [if_pos hk]; rfl
      · rw [if_neg hk]; rfl
  · cases hq
theorem A_abs {st : List Value} {q0 q1 : Nat} (hi : ab_ins y pc = some (.invokestatic j) ∧ ab_md (ab_own y) j = some (1002, q0, q1) ∧ ab_to y 1002 = some 1002) (h8 : (st.map (fun v => v.category)).sum ≤ 8) : At y pc ls (.long u :: st) I J Q ↔ At y (pc + 3) ls (.long (if 0 < u then u else -u) :: st) I J Q := At_he (i := .invokestatic j) hi.1 rfl (by unfold ab_cl; dsimp only; unfold ab_go; rw [hi.2.1]; dsimp only; rw [hi.2.2]; dsimp only; rw [if_neg (fun q => absurd q.1 (by decide))]) rfl rfl rfl (by unfold ab_he; dsimp only; rw [hi.2.1]; exact if_pos h8)
theorem A_min {st : List Value} {q0 q1 : Nat} (hi : ab_ins y pc = some (.invokestatic j) ∧ ab_md (ab_own y) j = some (1003, q0, q1) ∧ ab_to y 1003 = some 1003) (h8 : (st.map (fun v => v.category)).sum ≤ 8) : At y pc ls (.int x1 :: .int x :: st) I J Q ↔ At y (pc + 3) ls (.int (if x1 < x then x1 else x) :: st) I J Q := At_he (i := .invokestatic j) hi.1 rfl (by unfold ab_cl; dsimp only; unfold ab_go; rw [hi.2.1]; dsimp only; rw [hi.2.2]; dsimp only; rw [if_neg (fun q => absurd q.1 (by decide))]) rfl rfl rfl (by unfold ab_he; dsimp only; rw [hi.2.1]; exact if_pos h8)
theorem A_max {st : List Value} (hi : ab_ins y pc = some (.invokestatic 118)) (ho : ab_own y = 1) (hm : ab_md 1 118 = none) (h8 : (st.map (fun v => v.category)).sum ≤ 8) : At y pc ls (.int x1 :: .int x :: st) I J Q ↔ At y (pc + 3) ls (.int (if x < x1 then x1 else x) :: st) I J Q := At_he (i := .invokestatic 118) hi rfl (by unfold ab_cl; dsimp only; unfold ab_go; rw [ho, hm]) rfl rfl rfl (by unfold ab_he; dsimp only; rw [ho, hm]; exact if_pos ⟨rfl, rfl, h8⟩)
end AR

theorem ly_0 : ab_ly 0 = (0, 7) := rfl
theorem ly_1 : ab_ly 1 = (0, 5) := rfl
theorem ly_2 : ab_ly 2 = (1, 100) := rfl
theorem ly_3 : ab_ly 3 = (1, 100) := rfl
theorem ly_4 : ab_ly 4 = (1, 100) := rfl
theorem ly_5 : ab_ly 5 = (0, 1) := rfl
theorem ly_6 : ab_ly 6 = (1, 48) := rfl
theorem ly_7 : ab_ly 7 = (1, 12) := rfl
theorem ly_8 : ab_ly 8 = (2, 12) := rfl
theorem ly_9 : ab_ly 9 = (1, 4) := rfl
theorem ly_10 : ab_ly 10 = (1, 4) := rfl
theorem ly_11 : ab_ly 11 = (1, 12) := rfl
theorem ly_12 : ab_ly 12 = (2, 9) := rfl
theorem ly_13 : ab_ly 13 = (2, 9) := rfl
theorem ly_14 : ab_ly 14 = (2, 3) := rfl
theorem ly_15 : ab_ly 15 = (2, 4) := rfl
theorem ly_16 : ab_ly 16 = (2, 12) := rfl
theorem ly_17 : ab_ly 17 = (0, 1) := rfl
theorem ly_18 : ab_ly 18 = (1, 48) := rfl
theorem ly_19 : ab_ly 19 = (1, 12) := rfl
theorem ly_20 : ab_ly 20 = (2, 12) := rfl
theorem ly_21 : ab_ly 21 = (1, 4) := rfl
theorem ly_22 : ab_ly 22 = (1, 4) := rfl
theorem ly_23 : ab_ly 23 = (1, 12) := rfl
theorem ly_24 : ab_ly 24 = (2, 9) := rfl
theorem ly_25 : ab_ly 25 = (2, 9) := rfl
theorem ly_26 : ab_ly 26 = (2, 3) := rfl
theorem ly_27 : ab_ly 27 = (2, 4) := rfl
theorem ly_28 : ab_ly 28 = (2, 12) := rfl
theorem ly_29 : ab_ly 29 = (0, 4) := rfl
theorem ly_30 : ab_ly 30 = (0, 6) := rfl
theorem ly_31 : ab_ly 31 = (1, 4) := rfl
theorem ly_32 : ab_ly 32 = (1, 4) := rfl
theorem ly_33 : ab_ly 33 = (0, 0) := rfl
theorem ly_34 : ab_ly 34 = (1, 12) := rfl
theorem ly_35 : ab_ly 35 = (1, 12) := rfl
theorem ly_36 : ab_ly 36 = (1, 49) := rfl
theorem ly_37 : ab_ly 37 = (1, 49) := rfl
theorem ly_38 : ab_ly 38 = (1, 7) := rfl
theorem ly_39 : ab_ly 39 = (0, 2) := rfl
theorem ly_40 : ab_ly 40 = (1, 60) := rfl
theorem ly_41 : ab_ly 41 = (1, 6) := rfl
theorem ly_42 : ab_ly 42 = (1, 6) := rfl
theorem ly_43 : ab_ly 43 = (0, 3) := rfl
theorem ly_44 : ab_ly 44 = (1, 192) := rfl
theorem ly_45 : ab_ly 45 = (1, 4) := rfl
theorem ly_46 : ab_ly 46 = (1, 4) := rfl
theorem ly_47 : ab_ly 47 = (1, 48) := rfl
theorem ly_48 : ab_ly 48 = (1, 4) := rfl
theorem ly_49 : ab_ly 49 = (0, 8) := rfl
theorem ly_50 : ab_ly 50 = (1, 100) := rfl
theorem ly_51 : ab_ly 51 = (1, 100) := rfl
theorem ly_52 : ab_ly 52 = (1, 100) := rfl
theorem ly_53 : ab_ly 53 = (1, 100) := rfl
theorem ly_54 : ab_ly 54 = (1, 4) := rfl
theorem ly_55 : ab_ly 55 = (1, 48) := rfl
theorem ly_56 : ab_ly 56 = (1, 48) := rfl
theorem ly_57 : ab_ly 57 = (1, 16) := rfl
theorem ly_58 : ab_ly 58 = (1, 3) := rfl
theorem ly_59 : ab_ly 59 = (2, 12) := rfl
theorem ly_60 : ab_ly 60 = (2, 4) := rfl
theorem ly_61 : ab_ly 61 = (2, 4) := rfl
theorem ly_62 : ab_ly 62 = (2, 4) := rfl
theorem ly_63 : ab_ly 63 = (2, 12) := rfl
theorem ly_64 : ab_ly 64 = (1, 60) := rfl
theorem ly_65 : ab_ly 65 = (1, 6) := rfl
theorem ly_66 : ab_ly 66 = (1, 6) := rfl
theorem ly_67 : ab_ly 67 = (1, 12) := rfl
theorem ly_68 : ab_ly 68 = (1, 12) := rfl
theorem ly_69 : ab_ly 69 = (1, 12) := rfl
theorem ly_70 : ab_ly 70 = (3, 4) := rfl
theorem ly_71 : ab_ly 71 = (1, 4) := rfl
theorem ly_72 : ab_ly 72 = (1, 4) := rfl
theorem ly_73 : ab_ly 73 = (1, 192) := rfl
theorem ly_74 : ab_ly 74 = (1, 48) := rfl
end
