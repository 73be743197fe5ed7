-- ===== PART A: goes FIRST, ahead of the names: the tables' words, and 'selects' of the private methods out of them =====
/-- a private method of a class that the tables say can be made, by its rows of tables_1 -/
def lw_okq (q : MethodName × Nat) : Prop := (q.1.cls ≠ "java/lang/invoke/MethodHandle" ∧ q.1.cls ≠ "java/lang/invoke/VarHandle") ∧ Cond.instantiable q.1.cls q.2 ∈ tables_1 ∧ Cond.privateMethod q.1 ∈ tables_1 ∧ Cond.instanceMethod q.1 ∈ tables_1
theorem lw_p0 : lw_okq (⟨"BirdBridge$Script", "readItem", "(I)I"⟩, 3) := ⟨⟨by decide +kernel, by decide +kernel⟩, List.mem_of_getElem? (i := 24) (by decide +kernel), List.mem_of_getElem? (i := 236) (by decide +kernel), List.mem_of_getElem? (i := 237) (by decide +kernel)⟩
theorem lw_p1 : lw_okq (⟨"BirdBridge$Script", "letterAt", "(I)C"⟩, 3) := ⟨⟨by decide +kernel, by decide +kernel⟩, List.mem_of_getElem? (i := 24) (by decide +kernel), List.mem_of_getElem? (i := 240) (by decide +kernel), List.mem_of_getElem? (i := 241) (by decide +kernel)⟩
theorem lw_p2 : lw_okq (⟨"BirdBridge$Script", "figuresFrom", "(I)I"⟩, 3) := ⟨⟨by decide +kernel, by decide +kernel⟩, List.mem_of_getElem? (i := 24) (by decide +kernel), List.mem_of_getElem? (i := 247) (by decide +kernel), List.mem_of_getElem? (i := 248) (by decide +kernel)⟩
theorem lw_p3 : lw_okq (⟨"BirdBridge$Script", "numberAt", "(II)I"⟩, 3) := ⟨⟨by decide +kernel, by decide +kernel⟩, List.mem_of_getElem? (i := 24) (by decide +kernel), List.mem_of_getElem? (i := 254) (by decide +kernel), List.mem_of_getElem? (i := 255) (by decide +kernel)⟩
theorem lw_p4 : lw_okq (⟨"BirdBridge$Flock", "takeBird", "(IIII)Z"⟩, 10) := ⟨⟨by decide +kernel, by decide +kernel⟩, List.mem_of_getElem? (i := 42) (by decide +kernel), List.mem_of_getElem? (i := 262) (by decide +kernel), List.mem_of_getElem? (i := 263) (by decide +kernel)⟩
theorem lw_p5 : lw_okq (⟨"BirdBridge$Flock", "takeRiver", "(I)Z"⟩, 10) := ⟨⟨by decide +kernel, by decide +kernel⟩, List.mem_of_getElem? (i := 42) (by decide +kernel), List.mem_of_getElem? (i := 266) (by decide +kernel), List.mem_of_getElem? (i := 267) (by decide +kernel)⟩
theorem lw_p6 : lw_okq (⟨"BirdBridge$Flock", "takeWind", "(I)Z"⟩, 10) := ⟨⟨by decide +kernel, by decide +kernel⟩, List.mem_of_getElem? (i := 42) (by decide +kernel), List.mem_of_getElem? (i := 270) (by decide +kernel), List.mem_of_getElem? (i := 271) (by decide +kernel)⟩
theorem lw_p7 : lw_okq (⟨"BirdBridge$Flock", "takeLoad", "(II)Z"⟩, 10) := ⟨⟨by decide +kernel, by decide +kernel⟩, List.mem_of_getElem? (i := 42) (by decide +kernel), List.mem_of_getElem? (i := 274) (by decide +kernel), List.mem_of_getElem? (i := 275) (by decide +kernel)⟩
theorem lw_p8 : lw_okq (⟨"BirdBridge", "isBird", "(I)Z"⟩, 11) := ⟨⟨by decide +kernel, by decide +kernel⟩, List.mem_of_getElem? (i := 16) (by decide +kernel), List.mem_of_getElem? (i := 372) (by decide +kernel), List.mem_of_getElem? (i := 373) (by decide +kernel)⟩
theorem lw_p9 : lw_okq (⟨"BirdBridge", "loadNow", "(I)I"⟩, 11) := ⟨⟨by decide +kernel, by decide +kernel⟩, List.mem_of_getElem? (i := 16) (by decide +kernel), List.mem_of_getElem? (i := 444) (by decide +kernel), List.mem_of_getElem? (i := 445) (by decide +kernel)⟩
theorem lw_p10 : lw_okq (⟨"BirdBridge$Bridge", "whoSpans", "(I)I"⟩, 5) := ⟨⟨by decide +kernel, by decide +kernel⟩, List.mem_of_getElem? (i := 89) (by decide +kernel), List.mem_of_getElem? (i := 485) (by decide +kernel), List.mem_of_getElem? (i := 486) (by decide +kernel)⟩
theorem lw_p11 : lw_okq (⟨"BirdBridge$Shelf", "giveUpOldest", "()V"⟩, 2) := ⟨⟨by decide +kernel, by decide +kernel⟩, List.mem_of_getElem? (i := 132) (by decide +kernel), List.mem_of_getElem? (i := 531) (by decide +kernel), List.mem_of_getElem? (i := 532) (by decide +kernel)⟩
theorem lw_p12 : lw_okq (⟨"BirdBridge$Search", "findLeastMore", "(I)V"⟩, 6) := ⟨⟨by decide +kernel, by decide +kernel⟩, List.mem_of_getElem? (i := 151) (by decide +kernel), List.mem_of_getElem? (i := 630) (by decide +kernel), List.mem_of_getElem? (i := 631) (by decide +kernel)⟩
theorem lw_p13 : lw_okq (⟨"BirdBridge$Search", "placesOf", "(I)I"⟩, 6) := ⟨⟨by decide +kernel, by decide +kernel⟩, List.mem_of_getElem? (i := 151) (by decide +kernel), List.mem_of_getElem? (i := 634) (by decide +kernel), List.mem_of_getElem? (i := 635) (by decide +kernel)⟩
theorem lw_p14 : lw_okq (⟨"BirdBridge$Search", "leastMoreBehind", "(III)I"⟩, 6) := ⟨⟨by decide +kernel, by decide +kernel⟩, List.mem_of_getElem? (i := 151) (by decide +kernel), List.mem_of_getElem? (i := 641) (by decide +kernel), List.mem_of_getElem? (i := 642) (by decide +kernel)⟩
theorem lw_p15 : lw_okq (⟨"BirdBridge$Search", "couldBear", "(III)Z"⟩, 6) := ⟨⟨by decide +kernel, by decide +kernel⟩, List.mem_of_getElem? (i := 151) (by decide +kernel), List.mem_of_getElem? (i := 645) (by decide +kernel), List.mem_of_getElem? (i := 646) (by decide +kernel)⟩
def lw_privs_1 : List (MethodName × Nat) := [(⟨"BirdBridge$Script", "readItem", "(I)I"⟩, 3), (⟨"BirdBridge$Script", "letterAt", "(I)C"⟩, 3), (⟨"BirdBridge$Script", "figuresFrom", "(I)I"⟩, 3), (⟨"BirdBridge$Script", "numberAt", "(II)I"⟩, 3), (⟨"BirdBridge$Flock", "takeBird", "(IIII)Z"⟩, 10), (⟨"BirdBridge$Flock", "takeRiver", "(I)Z"⟩, 10), (⟨"BirdBridge$Flock", "takeWind", "(I)Z"⟩, 10), (⟨"BirdBridge$Flock", "takeLoad", "(II)Z"⟩, 10), (⟨"BirdBridge", "isBird", "(I)Z"⟩, 11), (⟨"BirdBridge", "loadNow", "(I)I"⟩, 11), (⟨"BirdBridge$Bridge", "whoSpans", "(I)I"⟩, 5), (⟨"BirdBridge$Shelf", "giveUpOldest", "()V"⟩, 2), (⟨"BirdBridge$Search", "findLeastMore", "(I)V"⟩, 6), (⟨"BirdBridge$Search", "placesOf", "(I)I"⟩, 6), (⟨"BirdBridge$Search", "leastMoreBehind", "(III)I"⟩, 6), (⟨"BirdBridge$Search", "couldBear", "(III)Z"⟩, 6)]
theorem lw_r1 : ∀ q ∈ lw_privs_1, lw_okq q := List.forall_mem_cons.mpr ⟨lw_p0, List.forall_mem_cons.mpr ⟨lw_p1, List.forall_mem_cons.mpr ⟨lw_p2, List.forall_mem_cons.mpr ⟨lw_p3, List.forall_mem_cons.mpr ⟨lw_p4, List.forall_mem_cons.mpr ⟨lw_p5, List.forall_mem_cons.mpr ⟨lw_p6, List.forall_mem_cons.mpr ⟨lw_p7, List.forall_mem_cons.mpr ⟨lw_p8, List.forall_mem_cons.mpr ⟨lw_p9, List.forall_mem_cons.mpr ⟨lw_p10, List.forall_mem_cons.mpr ⟨lw_p11, List.forall_mem_cons.mpr ⟨lw_p12, List.forall_mem_cons.mpr ⟨lw_p13, List.forall_mem_cons.mpr ⟨lw_p14, List.forall_mem_cons.mpr ⟨lw_p15, fun _ h => absurd h List.not_mem_nil⟩⟩⟩⟩⟩⟩⟩⟩⟩⟩⟩⟩⟩⟩⟩⟩
theorem lw_p16 : lw_okq (⟨"BirdBridge$Search", "extend", "(III)V"⟩, 6) := ⟨⟨by decide +kernel, by decide +kernel⟩, List.mem_of_getElem? (i := 151) (by decide +kernel), List.mem_of_getElem? (i := 659) (by decide +kernel), List.mem_of_getElem? (i := 660) (by decide +kernel)⟩
theorem lw_p17 : lw_okq (⟨"BirdBridge$Search", "noteFound", "()V"⟩, 6) := ⟨⟨by decide +kernel, by decide +kernel⟩, List.mem_of_getElem? (i := 151) (by decide +kernel), List.mem_of_getElem? (i := 673) (by decide +kernel), List.mem_of_getElem? (i := 674) (by decide +kernel)⟩
theorem lw_p18 : lw_okq (⟨"BirdBridge", "mends", "(II)Z"⟩, 11) := ⟨⟨by decide +kernel, by decide +kernel⟩, List.mem_of_getElem? (i := 16) (by decide +kernel), List.mem_of_getElem? (i := 692) (by decide +kernel), List.mem_of_getElem? (i := 693) (by decide +kernel)⟩
theorem lw_p19 : lw_okq (⟨"BirdBridge", "callMinute", "(I)I"⟩, 11) := ⟨⟨by decide +kernel, by decide +kernel⟩, List.mem_of_getElem? (i := 16) (by decide +kernel), List.mem_of_getElem? (i := 704) (by decide +kernel), List.mem_of_getElem? (i := 705) (by decide +kernel)⟩
theorem lw_p20 : lw_okq (⟨"BirdBridge", "bothComeOver", "(II)Z"⟩, 11) := ⟨⟨by decide +kernel, by decide +kernel⟩, List.mem_of_getElem? (i := 16) (by decide +kernel), List.mem_of_getElem? (i := 713) (by decide +kernel), List.mem_of_getElem? (i := 714) (by decide +kernel)⟩
theorem lw_p21 : lw_okq (⟨"BirdBridge", "isAsSeen", "(II)Z"⟩, 11) := ⟨⟨by decide +kernel, by decide +kernel⟩, List.mem_of_getElem? (i := 16) (by decide +kernel), List.mem_of_getElem? (i := 740) (by decide +kernel), List.mem_of_getElem? (i := 741) (by decide +kernel)⟩
theorem lw_p22 : lw_okq (⟨"BirdBridge", "comesOverByDraws", "(II)Z"⟩, 11) := ⟨⟨by decide +kernel, by decide +kernel⟩, List.mem_of_getElem? (i := 16) (by decide +kernel), List.mem_of_getElem? (i := 756) (by decide +kernel), List.mem_of_getElem? (i := 757) (by decide +kernel)⟩
theorem lw_p23 : lw_okq (⟨"BirdBridgeModel", "layBird", "(IIIII)V"⟩, 33) := ⟨⟨by decide +kernel, by decide +kernel⟩, List.mem_of_getElem? (i := 787) (by decide +kernel), List.mem_of_getElem? (i := 793) (by decide +kernel), List.mem_of_getElem? (i := 794) (by decide +kernel)⟩
theorem lw_p24 : lw_okq (⟨"BirdBridgeModel", "begin", "()V"⟩, 33) := ⟨⟨by decide +kernel, by decide +kernel⟩, List.mem_of_getElem? (i := 787) (by decide +kernel), List.mem_of_getElem? (i := 797) (by decide +kernel), List.mem_of_getElem? (i := 798) (by decide +kernel)⟩
theorem lw_p25 : lw_okq (⟨"BirdBridgeModel", "isRead", "()Z"⟩, 33) := ⟨⟨by decide +kernel, by decide +kernel⟩, List.mem_of_getElem? (i := 787) (by decide +kernel), List.mem_of_getElem? (i := 916) (by decide +kernel), List.mem_of_getElem? (i := 917) (by decide +kernel)⟩
theorem lw_p26 : lw_okq (⟨"BirdBridgeModel", "isItem", "()Z"⟩, 33) := ⟨⟨by decide +kernel, by decide +kernel⟩, List.mem_of_getElem? (i := 787) (by decide +kernel), List.mem_of_getElem? (i := 920) (by decide +kernel), List.mem_of_getElem? (i := 921) (by decide +kernel)⟩
theorem lw_p27 : lw_okq (⟨"BirdBridgeModel", "letterAt", "(I)I"⟩, 33) := ⟨⟨by decide +kernel, by decide +kernel⟩, List.mem_of_getElem? (i := 787) (by decide +kernel), List.mem_of_getElem? (i := 924) (by decide +kernel), List.mem_of_getElem? (i := 925) (by decide +kernel)⟩
theorem lw_p28 : lw_okq (⟨"BirdBridgeModel", "isRow", "(I)Z"⟩, 33) := ⟨⟨by decide +kernel, by decide +kernel⟩, List.mem_of_getElem? (i := 787) (by decide +kernel), List.mem_of_getElem? (i := 928) (by decide +kernel), List.mem_of_getElem? (i := 929) (by decide +kernel)⟩
theorem lw_p29 : lw_okq (⟨"BirdBridgeModel", "isBird", "(I)Z"⟩, 33) := ⟨⟨by decide +kernel, by decide +kernel⟩, List.mem_of_getElem? (i := 787) (by decide +kernel), List.mem_of_getElem? (i := 940) (by decide +kernel), List.mem_of_getElem? (i := 941) (by decide +kernel)⟩
theorem lw_p30 : lw_okq (⟨"BirdBridgeModel", "placeIn", "(I)I"⟩, 33) := ⟨⟨by decide +kernel, by decide +kernel⟩, List.mem_of_getElem? (i := 787) (by decide +kernel), List.mem_of_getElem? (i := 944) (by decide +kernel), List.mem_of_getElem? (i := 945) (by decide +kernel)⟩
theorem lw_p31 : lw_okq (⟨"BirdBridgeModel", "windIn", "(I)I"⟩, 33) := ⟨⟨by decide +kernel, by decide +kernel⟩, List.mem_of_getElem? (i := 787) (by decide +kernel), List.mem_of_getElem? (i := 952) (by decide +kernel), List.mem_of_getElem? (i := 953) (by decide +kernel)⟩
def lw_privs_2 : List (MethodName × Nat) := [(⟨"BirdBridge$Search", "extend", "(III)V"⟩, 6), (⟨"BirdBridge$Search", "noteFound", "()V"⟩, 6), (⟨"BirdBridge", "mends", "(II)Z"⟩, 11), (⟨"BirdBridge", "callMinute", "(I)I"⟩, 11), (⟨"BirdBridge", "bothComeOver", "(II)Z"⟩, 11), (⟨"BirdBridge", "isAsSeen", "(II)Z"⟩, 11), (⟨"BirdBridge", "comesOverByDraws", "(II)Z"⟩, 11), (⟨"BirdBridgeModel", "layBird", "(IIIII)V"⟩, 33), (⟨"BirdBridgeModel", "begin", "()V"⟩, 33), (⟨"BirdBridgeModel", "isRead", "()Z"⟩, 33), (⟨"BirdBridgeModel", "isItem", "()Z"⟩, 33), (⟨"BirdBridgeModel", "letterAt", "(I)I"⟩, 33), (⟨"BirdBridgeModel", "isRow", "(I)Z"⟩, 33), (⟨"BirdBridgeModel", "isBird", "(I)Z"⟩, 33), (⟨"BirdBridgeModel", "placeIn", "(I)I"⟩, 33), (⟨"BirdBridgeModel", "windIn", "(I)I"⟩, 33)]
theorem lw_r2 : ∀ q ∈ lw_privs_2, lw_okq q := List.forall_mem_cons.mpr ⟨lw_p16, List.forall_mem_cons.mpr ⟨lw_p17, List.forall_mem_cons.mpr ⟨lw_p18, List.forall_mem_cons.mpr ⟨lw_p19, List.forall_mem_cons.mpr ⟨lw_p20, List.forall_mem_cons.mpr ⟨lw_p21, List.forall_mem_cons.mpr ⟨lw_p22, List.forall_mem_cons.mpr ⟨lw_p23, List.forall_mem_cons.mpr ⟨lw_p24, List.forall_mem_cons.mpr ⟨lw_p25, List.forall_mem_cons.mpr ⟨lw_p26, List.forall_mem_cons.mpr ⟨lw_p27, List.forall_mem_cons.mpr ⟨lw_p28, List.forall_mem_cons.mpr ⟨lw_p29, List.forall_mem_cons.mpr ⟨lw_p30, List.forall_mem_cons.mpr ⟨lw_p31, fun _ h => absurd h List.not_mem_nil⟩⟩⟩⟩⟩⟩⟩⟩⟩⟩⟩⟩⟩⟩⟩⟩
theorem lw_p32 : lw_okq (⟨"BirdBridgeModel", "noLoads", "()V"⟩, 33) := ⟨⟨by decide +kernel, by decide +kernel⟩, List.mem_of_getElem? (i := 787) (by decide +kernel), List.mem_of_getElem? (i := 960) (by decide +kernel), List.mem_of_getElem? (i := 961) (by decide +kernel)⟩
theorem lw_p33 : lw_okq (⟨"BirdBridgeModel", "weightIn", "(I)I"⟩, 33) := ⟨⟨by decide +kernel, by decide +kernel⟩, List.mem_of_getElem? (i := 787) (by decide +kernel), List.mem_of_getElem? (i := 967) (by decide +kernel), List.mem_of_getElem? (i := 968) (by decide +kernel)⟩
theorem lw_p34 : lw_okq (⟨"BirdBridgeModel", "bear", "([III)V"⟩, 33) := ⟨⟨by decide +kernel, by decide +kernel⟩, List.mem_of_getElem? (i := 787) (by decide +kernel), List.mem_of_getElem? (i := 971) (by decide +kernel), List.mem_of_getElem? (i := 972) (by decide +kernel)⟩
theorem lw_p35 : lw_okq (⟨"BirdBridgeModel", "holderOf", "([II)I"⟩, 33) := ⟨⟨by decide +kernel, by decide +kernel⟩, List.mem_of_getElem? (i := 787) (by decide +kernel), List.mem_of_getElem? (i := 975) (by decide +kernel), List.mem_of_getElem? (i := 976) (by decide +kernel)⟩
theorem lw_p36 : lw_okq (⟨"BirdBridgeModel", "firstOf", "([II)I"⟩, 33) := ⟨⟨by decide +kernel, by decide +kernel⟩, List.mem_of_getElem? (i := 787) (by decide +kernel), List.mem_of_getElem? (i := 979) (by decide +kernel), List.mem_of_getElem? (i := 980) (by decide +kernel)⟩
theorem lw_p37 : lw_okq (⟨"BirdBridgeModel", "powerOf", "([II)I"⟩, 33) := ⟨⟨by decide +kernel, by decide +kernel⟩, List.mem_of_getElem? (i := 787) (by decide +kernel), List.mem_of_getElem? (i := 983) (by decide +kernel), List.mem_of_getElem? (i := 984) (by decide +kernel)⟩
theorem lw_p38 : lw_okq (⟨"BirdBridgeModel", "kindOf", "(I)I"⟩, 33) := ⟨⟨by decide +kernel, by decide +kernel⟩, List.mem_of_getElem? (i := 787) (by decide +kernel), List.mem_of_getElem? (i := 987) (by decide +kernel), List.mem_of_getElem? (i := 988) (by decide +kernel)⟩
theorem lw_p39 : lw_okq (⟨"BirdBridgeModel", "isPair", "([II)Z"⟩, 33) := ⟨⟨by decide +kernel, by decide +kernel⟩, List.mem_of_getElem? (i := 787) (by decide +kernel), List.mem_of_getElem? (i := 991) (by decide +kernel), List.mem_of_getElem? (i := 992) (by decide +kernel)⟩
theorem lw_p40 : lw_okq (⟨"BirdBridgeModel", "isShut", "()Z"⟩, 33) := ⟨⟨by decide +kernel, by decide +kernel⟩, List.mem_of_getElem? (i := 787) (by decide +kernel), List.mem_of_getElem? (i := 999) (by decide +kernel), List.mem_of_getElem? (i := 1000) (by decide +kernel)⟩
theorem lw_p41 : lw_okq (⟨"BirdBridgeModel", "mayJoin", "([II)Z"⟩, 33) := ⟨⟨by decide +kernel, by decide +kernel⟩, List.mem_of_getElem? (i := 787) (by decide +kernel), List.mem_of_getElem? (i := 1003) (by decide +kernel), List.mem_of_getElem? (i := 1004) (by decide +kernel)⟩
theorem lw_p42 : lw_okq (⟨"BirdBridgeModel", "isWhole", "([I)Z"⟩, 33) := ⟨⟨by decide +kernel, by decide +kernel⟩, List.mem_of_getElem? (i := 787) (by decide +kernel), List.mem_of_getElem? (i := 1007) (by decide +kernel), List.mem_of_getElem? (i := 1008) (by decide +kernel)⟩
theorem lw_p43 : lw_okq (⟨"BirdBridgeModel", "spanned", "([I)I"⟩, 33) := ⟨⟨by decide +kernel, by decide +kernel⟩, List.mem_of_getElem? (i := 787) (by decide +kernel), List.mem_of_getElem? (i := 1011) (by decide +kernel), List.mem_of_getElem? (i := 1012) (by decide +kernel)⟩
theorem lw_p44 : lw_okq (⟨"BirdBridgeModel", "note", "()V"⟩, 33) := ⟨⟨by decide +kernel, by decide +kernel⟩, List.mem_of_getElem? (i := 787) (by decide +kernel), List.mem_of_getElem? (i := 1015) (by decide +kernel), List.mem_of_getElem? (i := 1016) (by decide +kernel)⟩
theorem lw_p45 : lw_okq (⟨"BirdBridgeModel", "passes", "([II)Z"⟩, 33) := ⟨⟨by decide +kernel, by decide +kernel⟩, List.mem_of_getElem? (i := 787) (by decide +kernel), List.mem_of_getElem? (i := 1030) (by decide +kernel), List.mem_of_getElem? (i := 1031) (by decide +kernel)⟩
theorem lw_p46 : lw_okq (⟨"BirdBridgeModel", "holds", "([I)Z"⟩, 33) := ⟨⟨by decide +kernel, by decide +kernel⟩, List.mem_of_getElem? (i := 787) (by decide +kernel), List.mem_of_getElem? (i := 1034) (by decide +kernel), List.mem_of_getElem? (i := 1035) (by decide +kernel)⟩
theorem lw_p47 : lw_okq (⟨"BirdBridgeModel", "tire", "([I)V"⟩, 33) := ⟨⟨by decide +kernel, by decide +kernel⟩, List.mem_of_getElem? (i := 787) (by decide +kernel), List.mem_of_getElem? (i := 1038) (by decide +kernel), List.mem_of_getElem? (i := 1039) (by decide +kernel)⟩
def lw_privs_3 : List (MethodName × Nat) := [(⟨"BirdBridgeModel", "noLoads", "()V"⟩, 33), (⟨"BirdBridgeModel", "weightIn", "(I)I"⟩, 33), (⟨"BirdBridgeModel", "bear", "([III)V"⟩, 33), (⟨"BirdBridgeModel", "holderOf", "([II)I"⟩, 33), (⟨"BirdBridgeModel", "firstOf", "([II)I"⟩, 33), (⟨"BirdBridgeModel", "powerOf", "([II)I"⟩, 33), (⟨"BirdBridgeModel", "kindOf", "(I)I"⟩, 33), (⟨"BirdBridgeModel", "isPair", "([II)Z"⟩, 33), (⟨"BirdBridgeModel", "isShut", "()Z"⟩, 33), (⟨"BirdBridgeModel", "mayJoin", "([II)Z"⟩, 33), (⟨"BirdBridgeModel", "isWhole", "([I)Z"⟩, 33), (⟨"BirdBridgeModel", "spanned", "([I)I"⟩, 33), (⟨"BirdBridgeModel", "note", "()V"⟩, 33), (⟨"BirdBridgeModel", "passes", "([II)Z"⟩, 33), (⟨"BirdBridgeModel", "holds", "([I)Z"⟩, 33), (⟨"BirdBridgeModel", "tire", "([I)V"⟩, 33)]
theorem lw_r3 : ∀ q ∈ lw_privs_3, lw_okq q := List.forall_mem_cons.mpr ⟨lw_p32, List.forall_mem_cons.mpr ⟨lw_p33, List.forall_mem_cons.mpr ⟨lw_p34, List.forall_mem_cons.mpr ⟨lw_p35, List.forall_mem_cons.mpr ⟨lw_p36, List.forall_mem_cons.mpr ⟨lw_p37, List.forall_mem_cons.mpr ⟨lw_p38, List.forall_mem_cons.mpr ⟨lw_p39, List.forall_mem_cons.mpr ⟨lw_p40, List.forall_mem_cons.mpr ⟨lw_p41, List.forall_mem_cons.mpr ⟨lw_p42, List.forall_mem_cons.mpr ⟨lw_p43, List.forall_mem_cons.mpr ⟨lw_p44, List.forall_mem_cons.mpr ⟨lw_p45, List.forall_mem_cons.mpr ⟨lw_p46, List.forall_mem_cons.mpr ⟨lw_p47, fun _ h => absurd h List.not_mem_nil⟩⟩⟩⟩⟩⟩⟩⟩⟩⟩⟩⟩⟩⟩⟩⟩
theorem lw_p48 : lw_okq (⟨"BirdBridgeModel", "goesOver", "([I)Z"⟩, 33) := ⟨⟨by decide +kernel, by decide +kernel⟩, List.mem_of_getElem? (i := 787) (by decide +kernel), List.mem_of_getElem? (i := 1058) (by decide +kernel), List.mem_of_getElem? (i := 1059) (by decide +kernel)⟩
theorem lw_p49 : lw_okq (⟨"BirdBridgeModel", "layFewest", "()V"⟩, 33) := ⟨⟨by decide +kernel, by decide +kernel⟩, List.mem_of_getElem? (i := 787) (by decide +kernel), List.mem_of_getElem? (i := 1066) (by decide +kernel), List.mem_of_getElem? (i := 1067) (by decide +kernel)⟩
theorem lw_p50 : lw_okq (⟨"BirdBridgeModel", "findOf", "(I)Z"⟩, 33) := ⟨⟨by decide +kernel, by decide +kernel⟩, List.mem_of_getElem? (i := 787) (by decide +kernel), List.mem_of_getElem? (i := 1070) (by decide +kernel), List.mem_of_getElem? (i := 1071) (by decide +kernel)⟩
theorem lw_p51 : lw_okq (⟨"BirdBridgeModel", "freshen", "([I)V"⟩, 33) := ⟨⟨by decide +kernel, by decide +kernel⟩, List.mem_of_getElem? (i := 787) (by decide +kernel), List.mem_of_getElem? (i := 1074) (by decide +kernel), List.mem_of_getElem? (i := 1075) (by decide +kernel)⟩
theorem lw_p52 : lw_okq (⟨"BirdBridgeModel", "bothGo", "(II)Z"⟩, 33) := ⟨⟨by decide +kernel, by decide +kernel⟩, List.mem_of_getElem? (i := 787) (by decide +kernel), List.mem_of_getElem? (i := 1093) (by decide +kernel), List.mem_of_getElem? (i := 1094) (by decide +kernel)⟩
theorem lw_p53 : lw_okq (⟨"BirdBridgeModel", "isStood", "(II)Z"⟩, 33) := ⟨⟨by decide +kernel, by decide +kernel⟩, List.mem_of_getElem? (i := 787) (by decide +kernel), List.mem_of_getElem? (i := 1113) (by decide +kernel), List.mem_of_getElem? (i := 1114) (by decide +kernel)⟩
theorem lw_p54 : lw_okq (⟨"BirdBridgeModel", "comesOver", "(II)Z"⟩, 33) := ⟨⟨by decide +kernel, by decide +kernel⟩, List.mem_of_getElem? (i := 787) (by decide +kernel), List.mem_of_getElem? (i := 1127) (by decide +kernel), List.mem_of_getElem? (i := 1128) (by decide +kernel)⟩
def lw_privs_4 : List (MethodName × Nat) := [(⟨"BirdBridgeModel", "goesOver", "([I)Z"⟩, 33), (⟨"BirdBridgeModel", "layFewest", "()V"⟩, 33), (⟨"BirdBridgeModel", "findOf", "(I)Z"⟩, 33), (⟨"BirdBridgeModel", "freshen", "([I)V"⟩, 33), (⟨"BirdBridgeModel", "bothGo", "(II)Z"⟩, 33), (⟨"BirdBridgeModel", "isStood", "(II)Z"⟩, 33), (⟨"BirdBridgeModel", "comesOver", "(II)Z"⟩, 33)]
theorem lw_r4 : ∀ q ∈ lw_privs_4, lw_okq q := List.forall_mem_cons.mpr ⟨lw_p48, List.forall_mem_cons.mpr ⟨lw_p49, List.forall_mem_cons.mpr ⟨lw_p50, List.forall_mem_cons.mpr ⟨lw_p51, List.forall_mem_cons.mpr ⟨lw_p52, List.forall_mem_cons.mpr ⟨lw_p53, List.forall_mem_cons.mpr ⟨lw_p54, fun _ h => absurd h List.not_mem_nil⟩⟩⟩⟩⟩⟩⟩
def lw_privs : List (MethodName × Nat) := lw_privs_1 ++ (lw_privs_2 ++ (lw_privs_3 ++ (lw_privs_4)))
def lw_tbl : List Cond := k2_sels lw_privs ++ tables_1
theorem lw_privs_ok : ∀ q ∈ lw_privs, lw_okq q := by
  show ∀ q ∈ lw_privs_1 ++ (lw_privs_2 ++ (lw_privs_3 ++ (lw_privs_4))), lw_okq q
  exact List.forall_mem_append.mpr ⟨lw_r1, List.forall_mem_append.mpr ⟨lw_r2, List.forall_mem_append.mpr ⟨lw_r3, lw_r4⟩⟩⟩
def RX0 : String := "BirdBridge$Bridge"
def TX0 : u_T := fun k => match k with
  | 0 => ("BirdBridge$Bridge", "flock", "LBirdBridge$Flock;", true)
  | 1 => ("BirdBridge$Bridge", "order", "[I", true)
  | 2 => ("BirdBridge$Bridge", "tired", "[I", true)
  | 3 => ("BirdBridge$Bridge", "borne", "[I", true)
  | _ => ("BirdBridge$Bridge", "size", "I", false)
def tyX0 : Nat → FieldType := fun k => match k with
  | 0 => .object "BirdBridge$Flock"
  | 1 => .array .int
  | 2 => .array .int
  | 3 => .array .int
  | _ => .int
abbrev wsX00 : List Cond := u_ws RX0 TX0 5
theorem nmX0 : ∀ a, a < 5 → ∀ b, b < 5 → a ≠ b → (TX0 a).2.1 ≠ (TX0 b).2.1 := by decide +kernel
theorem tyX0_ok : ∀ k, k < 5 → parseFieldDescriptor (TX0 k).2.2.1 = some (tyX0 k) := by decide +kernel
abbrev cX0_init : ByteArray := prog_2_method_1_code
def yX0_init : MethodName := ⟨RX0, "<init>", "(LBirdBridge$Flock;)V"⟩
abbrev cX0_clear : ByteArray := prog_2_method_2_code
def yX0_clear : MethodName := ⟨RX0, "clear", "()V"⟩
abbrev cX0_rest : ByteArray := prog_2_method_3_code
def yX0_rest : MethodName := ⟨RX0, "rest", "()V"⟩
abbrev cX0_copyFrom : ByteArray := prog_2_method_4_code
def yX0_copyFrom : MethodName := ⟨RX0, "copyFrom", "(LBirdBridge$Bridge;)V"⟩
abbrev cX0_copyRested : ByteArray := prog_2_method_5_code
def yX0_copyRested : MethodName := ⟨RX0, "copyRested", "(LBirdBridge$Bridge;)V"⟩
abbrev cX0_size : ByteArray := prog_2_method_6_code
def yX0_size : MethodName := ⟨RX0, "size", "()I"⟩
abbrev cX0_birdAt : ByteArray := prog_2_method_7_code
def yX0_birdAt : MethodName := ⟨RX0, "birdAt", "(I)I"⟩
abbrev cX0_kindAt : ByteArray := prog_2_method_8_code
def yX0_kindAt : MethodName := ⟨RX0, "kindAt", "(I)I"⟩
abbrev cX0_borneAt : ByteArray := prog_2_method_9_code
def yX0_borneAt : MethodName := ⟨RX0, "borneAt", "(I)I"⟩
abbrev cX0_tiredOf : ByteArray := prog_2_method_10_code
def yX0_tiredOf : MethodName := ⟨RX0, "tiredOf", "(I)I"⟩
abbrev cX0_positionOf : ByteArray := prog_2_method_11_code
def yX0_positionOf : MethodName := ⟨RX0, "positionOf", "(I)I"⟩
abbrev cX0_firstPlaceOf : ByteArray := prog_2_method_12_code
def yX0_firstPlaceOf : MethodName := ⟨RX0, "firstPlaceOf", "(I)I"⟩
abbrev cX0_placesSpanned : ByteArray := prog_2_method_13_code
def yX0_placesSpanned : MethodName := ⟨RX0, "placesSpanned", "()I"⟩
abbrev cX0_isWhole : ByteArray := prog_2_method_14_code
def yX0_isWhole : MethodName := ⟨RX0, "isWhole", "()Z"⟩
abbrev cX0_mayJoin : ByteArray := prog_2_method_15_code
def yX0_mayJoin : MethodName := ⟨RX0, "mayJoin", "(I)Z"⟩
abbrev cX0_append : ByteArray := prog_2_method_16_code
def yX0_append : MethodName := ⟨RX0, "append", "(I)V"⟩
abbrev cX0_dropLast : ByteArray := prog_2_method_17_code
def yX0_dropLast : MethodName := ⟨RX0, "dropLast", "()V"⟩
abbrev cX0_replace : ByteArray := prog_2_method_18_code
def yX0_replace : MethodName := ⟨RX0, "replace", "(II)V"⟩
abbrev cX0_powerAt : ByteArray := prog_2_method_19_code
def yX0_powerAt : MethodName := ⟨RX0, "powerAt", "(I)I"⟩
abbrev cX0_powerOf : ByteArray := prog_2_method_20_code
def yX0_powerOf : MethodName := ⟨RX0, "powerOf", "(IIZZ)I"⟩
abbrev cX0_unload : ByteArray := prog_2_method_21_code
def yX0_unload : MethodName := ⟨RX0, "unload", "()V"⟩
abbrev cX0_press : ByteArray := prog_2_method_22_code
def yX0_press : MethodName := ⟨RX0, "press", "(II)V"⟩
abbrev cX0_partOf : ByteArray := prog_2_method_23_code
def yX0_partOf : MethodName := ⟨RX0, "partOf", "(II)I"⟩
abbrev cX0_loadAlone : ByteArray := prog_2_method_24_code
def yX0_loadAlone : MethodName := ⟨RX0, "loadAlone", "(II)V"⟩
abbrev cX0_whoSpans : ByteArray := prog_2_method_25_code
def yX0_whoSpans : MethodName := ⟨RX0, "whoSpans", "(I)I"⟩
abbrev cX0_settle : ByteArray := prog_2_method_26_code
def yX0_settle : MethodName := ⟨RX0, "settle", "()Z"⟩
abbrev cX0_tire : ByteArray := prog_2_method_27_code
def yX0_tire : MethodName := ⟨RX0, "tire", "()V"⟩
abbrev cX0_tiredBy : ByteArray := prog_2_method_28_code
def yX0_tiredBy : MethodName := ⟨RX0, "tiredBy", "(II)I"⟩
abbrev cX0_walk : ByteArray := prog_2_method_29_code
def yX0_walk : MethodName := ⟨RX0, "walk", "(IIII)I"⟩
def RX1 : String := "BirdBridge$Flock"
def TX1 : u_T := fun k => match k with
  | 0 => ("BirdBridge$Flock", "strengths", "[I", true)
  | 1 => ("BirdBridge$Flock", "lengths", "[I", true)
  | 2 => ("BirdBridge$Flock", "kinds", "[I", true)
  | 3 => ("BirdBridge$Flock", "woods", "[I", true)
  | 4 => ("BirdBridge$Flock", "winds", "[I", true)
  | 5 => ("BirdBridge$Flock", "birds", "I", false)
  | 6 => ("BirdBridge$Flock", "windCount", "I", false)
  | 7 => ("BirdBridge$Flock", "width", "I", false)
  | 8 => ("BirdBridge$Flock", "heaviness", "I", false)
  | _ => ("BirdBridge$Flock", "growth", "I", false)
def tyX1 : Nat → FieldType := fun k => match k with
  | 0 => .array .int
  | 1 => .array .int
  | 2 => .array .int
  | 3 => .array .int
  | 4 => .array .int
  | 5 => .int
  | 6 => .int
  | 7 => .int
  | 8 => .int
  | _ => .int
abbrev wsX10 : List Cond := u_ws RX1 TX1 10
theorem nmX1 : ∀ a, a < 10 → ∀ b, b < 10 → a ≠ b → (TX1 a).2.1 ≠ (TX1 b).2.1 := by decide +kernel
theorem tyX1_ok : ∀ k, k < 10 → parseFieldDescriptor (TX1 k).2.2.1 = some (tyX1 k) := by decide +kernel
abbrev cX1_init : ByteArray := prog_3_method_1_code
def yX1_init : MethodName := ⟨RX1, "<init>", "()V"⟩
abbrev cX1_clear : ByteArray := prog_3_method_2_code
def yX1_clear : MethodName := ⟨RX1, "clear", "()V"⟩
abbrev cX1_copyFrom : ByteArray := prog_3_method_3_code
def yX1_copyFrom : MethodName := ⟨RX1, "copyFrom", "(LBirdBridge$Flock;)V"⟩
abbrev cX1_take : ByteArray := prog_3_method_4_code
def yX1_take : MethodName := ⟨RX1, "take", "(C[I)Z"⟩
abbrev cX1_takeBird : ByteArray := prog_3_method_5_code
def yX1_takeBird : MethodName := ⟨RX1, "takeBird", "(IIII)Z"⟩
abbrev cX1_takeRiver : ByteArray := prog_3_method_6_code
def yX1_takeRiver : MethodName := ⟨RX1, "takeRiver", "(I)Z"⟩
abbrev cX1_takeWind : ByteArray := prog_3_method_7_code
def yX1_takeWind : MethodName := ⟨RX1, "takeWind", "(I)Z"⟩
abbrev cX1_takeLoad : ByteArray := prog_3_method_8_code
def yX1_takeLoad : MethodName := ⟨RX1, "takeLoad", "(II)Z"⟩
abbrev cX1_birds : ByteArray := prog_3_method_9_code
def yX1_birds : MethodName := ⟨RX1, "birds", "()I"⟩
abbrev cX1_width : ByteArray := prog_3_method_10_code
def yX1_width : MethodName := ⟨RX1, "width", "()I"⟩
abbrev cX1_strengthOf : ByteArray := prog_3_method_11_code
def yX1_strengthOf : MethodName := ⟨RX1, "strengthOf", "(I)I"⟩
abbrev cX1_lengthOf : ByteArray := prog_3_method_12_code
def yX1_lengthOf : MethodName := ⟨RX1, "lengthOf", "(I)I"⟩
abbrev cX1_kindOf : ByteArray := prog_3_method_13_code
def yX1_kindOf : MethodName := ⟨RX1, "kindOf", "(I)I"⟩
abbrev cX1_woodOf : ByteArray := prog_3_method_14_code
def yX1_woodOf : MethodName := ⟨RX1, "woodOf", "(I)I"⟩
abbrev cX1_windIn : ByteArray := prog_3_method_15_code
def yX1_windIn : MethodName := ⟨RX1, "windIn", "(I)I"⟩
abbrev cX1_weightIn : ByteArray := prog_3_method_16_code
def yX1_weightIn : MethodName := ⟨RX1, "weightIn", "(I)I"⟩
abbrev cX1_hasCrow : ByteArray := prog_3_method_17_code
def yX1_hasCrow : MethodName := ⟨RX1, "hasCrow", "()Z"⟩
def RX2 : String := "BirdBridge$Night"
def TX2 : u_T := fun k => match k with
  | 0 => ("BirdBridge$Night", "flock", "LBirdBridge$Flock;", true)
  | 1 => ("BirdBridge$Night", "bridge", "LBirdBridge$Bridge;", true)
  | 2 => ("BirdBridge$Night", "minute", "I", false)
  | 3 => ("BirdBridge$Night", "year", "I", false)
  | 4 => ("BirdBridge$Night", "place", "I", false)
  | _ => ("BirdBridge$Night", "broken", "Z", false)
def tyX2 : Nat → FieldType := fun k => match k with
  | 0 => .object "BirdBridge$Flock"
  | 1 => .object "BirdBridge$Bridge"
  | 2 => .int
  | 3 => .int
  | 4 => .int
  | _ => .boolean
abbrev wsX20 : List Cond := u_ws RX2 TX2 6
theorem nmX2 : ∀ a, a < 6 → ∀ b, b < 6 → a ≠ b → (TX2 a).2.1 ≠ (TX2 b).2.1 := by decide +kernel
theorem tyX2_ok : ∀ k, k < 6 → parseFieldDescriptor (TX2 k).2.2.1 = some (tyX2 k) := by decide +kernel
abbrev cX2_init : ByteArray := prog_4_method_1_code
def yX2_init : MethodName := ⟨RX2, "<init>", "(LBirdBridge$Flock;)V"⟩
abbrev cX2_begin : ByteArray := prog_4_method_2_code
def yX2_begin : MethodName := ⟨RX2, "begin", "()V"⟩
abbrev cX2_copyFrom : ByteArray := prog_4_method_3_code
def yX2_copyFrom : MethodName := ⟨RX2, "copyFrom", "(LBirdBridge$Night;)V"⟩
abbrev cX2_bridge : ByteArray := prog_4_method_4_code
def yX2_bridge : MethodName := ⟨RX2, "bridge", "()LBirdBridge$Bridge;"⟩
abbrev cX2_minute : ByteArray := prog_4_method_5_code
def yX2_minute : MethodName := ⟨RX2, "minute", "()I"⟩
abbrev cX2_yearNow : ByteArray := prog_4_method_6_code
def yX2_yearNow : MethodName := ⟨RX2, "yearNow", "()I"⟩
abbrev cX2_setYear : ByteArray := prog_4_method_7_code
def yX2_setYear : MethodName := ⟨RX2, "setYear", "(I)V"⟩
abbrev cX2_place : ByteArray := prog_4_method_8_code
def yX2_place : MethodName := ⟨RX2, "place", "()I"⟩
abbrev cX2_isBroken : ByteArray := prog_4_method_9_code
def yX2_isBroken : MethodName := ⟨RX2, "isBroken", "()Z"⟩
abbrev cX2_weight : ByteArray := prog_4_method_10_code
def yX2_weight : MethodName := ⟨RX2, "weight", "()I"⟩
abbrev cX2_isOnBridge : ByteArray := prog_4_method_11_code
def yX2_isOnBridge : MethodName := ⟨RX2, "isOnBridge", "()Z"⟩
abbrev cX2_isFixed : ByteArray := prog_4_method_12_code
def yX2_isFixed : MethodName := ⟨RX2, "isFixed", "()Z"⟩
abbrev cX2_passMinuteAt : ByteArray := prog_4_method_13_code
def yX2_passMinuteAt : MethodName := ⟨RX2, "passMinuteAt", "(I)Z"⟩
def RX3 : String := "BirdBridge$Script"
def TX3 : u_T := fun k => match k with
  | 0 => ("BirdBridge$Script", "letters", "[C", true)
  | 1 => ("BirdBridge$Script", "numbers", "[I", true)
  | _ => ("BirdBridge$Script", "length", "I", false)
def tyX3 : Nat → FieldType := fun k => match k with
  | 0 => .array .char
  | 1 => .array .int
  | _ => .int
abbrev wsX30 : List Cond := u_ws RX3 TX3 3
theorem nmX3 : ∀ a, a < 3 → ∀ b, b < 3 → a ≠ b → (TX3 a).2.1 ≠ (TX3 b).2.1 := by decide +kernel
theorem tyX3_ok : ∀ k, k < 3 → parseFieldDescriptor (TX3 k).2.2.1 = some (tyX3 k) := by decide +kernel
abbrev cX3_init : ByteArray := prog_5_method_1_code
def yX3_init : MethodName := ⟨RX3, "<init>", "()V"⟩
abbrev cX3_length : ByteArray := prog_5_method_2_code
def yX3_length : MethodName := ⟨RX3, "length", "()I"⟩
abbrev cX3_clear : ByteArray := prog_5_method_3_code
def yX3_clear : MethodName := ⟨RX3, "clear", "()V"⟩
abbrev cX3_append : ByteArray := prog_5_method_4_code
def yX3_append : MethodName := ⟨RX3, "append", "(I)Z"⟩
abbrev cX3_readInto : ByteArray := prog_5_method_5_code
def yX3_readInto : MethodName := ⟨RX3, "readInto", "(LBirdBridge$Flock;)I"⟩
abbrev cX3_readItem : ByteArray := prog_5_method_6_code
def yX3_readItem : MethodName := ⟨RX3, "readItem", "(I)I"⟩
abbrev cX3_numbersBehind : ByteArray := prog_5_method_7_code
def yX3_numbersBehind : MethodName := ⟨RX3, "numbersBehind", "(C)I"⟩
abbrev cX3_figuresFrom : ByteArray := prog_5_method_8_code
def yX3_figuresFrom : MethodName := ⟨RX3, "figuresFrom", "(I)I"⟩
abbrev cX3_numberAt : ByteArray := prog_5_method_9_code
def yX3_numberAt : MethodName := ⟨RX3, "numberAt", "(II)I"⟩
abbrev cX3_isFigure : ByteArray := prog_5_method_10_code
def yX3_isFigure : MethodName := ⟨RX3, "isFigure", "(C)Z"⟩
abbrev cX3_letterAt : ByteArray := prog_5_method_11_code
def yX3_letterAt : MethodName := ⟨RX3, "letterAt", "(I)C"⟩
def RX4 : String := "BirdBridge$Search"
def TX4 : u_T := fun k => match k with
  | 0 => ("BirdBridge$Search", "flock", "LBirdBridge$Flock;", true)
  | 1 => ("BirdBridge$Search", "tried", "LBirdBridge$Bridge;", true)
  | 2 => ("BirdBridge$Search", "found", "[I", true)
  | 3 => ("BirdBridge$Search", "leastMore", "[I", true)
  | 4 => ("BirdBridge$Search", "foundSize", "I", false)
  | _ => ("BirdBridge$Search", "foundWeight", "I", false)
def tyX4 : Nat → FieldType := fun k => match k with
  | 0 => .object "BirdBridge$Flock"
  | 1 => .object "BirdBridge$Bridge"
  | 2 => .array .int
  | 3 => .array .int
  | 4 => .int
  | _ => .int
abbrev wsX40 : List Cond := u_ws RX4 TX4 6
theorem nmX4 : ∀ a, a < 6 → ∀ b, b < 6 → a ≠ b → (TX4 a).2.1 ≠ (TX4 b).2.1 := by decide +kernel
theorem tyX4_ok : ∀ k, k < 6 → parseFieldDescriptor (TX4 k).2.2.1 = some (tyX4 k) := by decide +kernel
abbrev cX4_init : ByteArray := prog_6_method_1_code
def yX4_init : MethodName := ⟨RX4, "<init>", "(LBirdBridge$Flock;)V"⟩
abbrev cX4_begin : ByteArray := prog_6_method_2_code
def yX4_begin : MethodName := ⟨RX4, "begin", "()V"⟩
abbrev cX4_find : ByteArray := prog_6_method_3_code
def yX4_find : MethodName := ⟨RX4, "find", "(I)V"⟩
abbrev cX4_foundSize : ByteArray := prog_6_method_4_code
def yX4_foundSize : MethodName := ⟨RX4, "foundSize", "()I"⟩
abbrev cX4_foundAt : ByteArray := prog_6_method_5_code
def yX4_foundAt : MethodName := ⟨RX4, "foundAt", "(I)I"⟩
abbrev cX4_findLeastMore : ByteArray := prog_6_method_6_code
def yX4_findLeastMore : MethodName := ⟨RX4, "findLeastMore", "(I)V"⟩
abbrev cX4_placesOf : ByteArray := prog_6_method_7_code
def yX4_placesOf : MethodName := ⟨RX4, "placesOf", "(I)I"⟩
abbrev cX4_leastMoreBehind : ByteArray := prog_6_method_8_code
def yX4_leastMoreBehind : MethodName := ⟨RX4, "leastMoreBehind", "(III)I"⟩
abbrev cX4_couldBear : ByteArray := prog_6_method_9_code
def yX4_couldBear : MethodName := ⟨RX4, "couldBear", "(III)Z"⟩
abbrev cX4_extend : ByteArray := prog_6_method_10_code
def yX4_extend : MethodName := ⟨RX4, "extend", "(III)V"⟩
abbrev cX4_noteFound : ByteArray := prog_6_method_11_code
def yX4_noteFound : MethodName := ⟨RX4, "noteFound", "()V"⟩
def RX5 : String := "BirdBridge$Shelf"
def TX5 : u_T := fun k => match k with
  | 0 => ("BirdBridge$Shelf", "nights", "[LBirdBridge$Night;", true)
  | _ => ("BirdBridge$Shelf", "size", "I", false)
def tyX5 : Nat → FieldType := fun k => match k with
  | 0 => .array (.object "BirdBridge$Night")
  | _ => .int
abbrev wsX50 : List Cond := u_ws RX5 TX5 2
theorem nmX5 : ∀ a, a < 2 → ∀ b, b < 2 → a ≠ b → (TX5 a).2.1 ≠ (TX5 b).2.1 := by decide +kernel
theorem tyX5_ok : ∀ k, k < 2 → parseFieldDescriptor (TX5 k).2.2.1 = some (tyX5 k) := by decide +kernel
abbrev cX5_init : ByteArray := prog_7_method_1_code
def yX5_init : MethodName := ⟨RX5, "<init>", "(LBirdBridge$Flock;I)V"⟩
abbrev cX5_size : ByteArray := prog_7_method_2_code
def yX5_size : MethodName := ⟨RX5, "size", "()I"⟩
abbrev cX5_isFull : ByteArray := prog_7_method_3_code
def yX5_isFull : MethodName := ⟨RX5, "isFull", "()Z"⟩
abbrev cX5_clear : ByteArray := prog_7_method_4_code
def yX5_clear : MethodName := ⟨RX5, "clear", "()V"⟩
abbrev cX5_put : ByteArray := prog_7_method_5_code
def yX5_put : MethodName := ⟨RX5, "put", "(LBirdBridge$Night;)V"⟩
abbrev cX5_giveUpOldest : ByteArray := prog_7_method_6_code
def yX5_giveUpOldest : MethodName := ⟨RX5, "giveUpOldest", "()V"⟩
abbrev cX5_takeInto : ByteArray := prog_7_method_7_code
def yX5_takeInto : MethodName := ⟨RX5, "takeInto", "(LBirdBridge$Night;)Z"⟩
def RX6 : String := "BirdBridge"
def TX6 : u_T := fun k => match k with
  | 0 => ("BirdBridge", "script", "LBirdBridge$Script;", true)
  | 1 => ("BirdBridge", "laid", "LBirdBridge$Flock;", true)
  | 2 => ("BirdBridge", "draft", "LBirdBridge$Flock;", true)
  | 3 => ("BirdBridge", "night", "LBirdBridge$Night;", true)
  | 4 => ("BirdBridge", "trial", "LBirdBridge$Bridge;", true)
  | 5 => ("BirdBridge", "past", "LBirdBridge$Shelf;", true)
  | 6 => ("BirdBridge", "kept", "LBirdBridge$Shelf;", true)
  | 7 => ("BirdBridge", "search", "LBirdBridge$Search;", true)
  | 8 => ("BirdBridge", "seenWhich", "[I", true)
  | 9 => ("BirdBridge", "seenTired", "[I", true)
  | _ => ("BirdBridge", "seenSize", "I", false)
def tyX6 : Nat → FieldType := fun k => match k with
  | 0 => .object "BirdBridge$Script"
  | 1 => .object "BirdBridge$Flock"
  | 2 => .object "BirdBridge$Flock"
  | 3 => .object "BirdBridge$Night"
  | 4 => .object "BirdBridge$Bridge"
  | 5 => .object "BirdBridge$Shelf"
  | 6 => .object "BirdBridge$Shelf"
  | 7 => .object "BirdBridge$Search"
  | 8 => .array .int
  | 9 => .array .int
  | _ => .int
abbrev wsX60 : List Cond := u_ws RX6 TX6 11
theorem nmX6 : ∀ a, a < 11 → ∀ b, b < 11 → a ≠ b → (TX6 a).2.1 ≠ (TX6 b).2.1 := by decide +kernel
theorem tyX6_ok : ∀ k, k < 11 → parseFieldDescriptor (TX6 k).2.2.1 = some (tyX6 k) := by decide +kernel
abbrev cX6_init : ByteArray := prog_1_method_1_code
def yX6_init : MethodName := ⟨RX6, "<init>", "()V"⟩
abbrev cX6_write : ByteArray := prog_1_method_2_code
def yX6_write : MethodName := ⟨RX6, "write", "(I)I"⟩
abbrev cX6_wipe : ByteArray := prog_1_method_3_code
def yX6_wipe : MethodName := ⟨RX6, "wipe", "()I"⟩
abbrev cX6_fault : ByteArray := prog_1_method_4_code
def yX6_fault : MethodName := ⟨RX6, "fault", "()I"⟩
abbrev cX6_lay : ByteArray := prog_1_method_5_code
def yX6_lay : MethodName := ⟨RX6, "lay", "()I"⟩
abbrev cX6_bird : ByteArray := prog_1_method_6_code
def yX6_bird : MethodName := ⟨RX6, "bird", "(II)I"⟩
abbrev cX6_wind : ByteArray := prog_1_method_7_code
def yX6_wind : MethodName := ⟨RX6, "wind", "(I)I"⟩
abbrev cX6_span : ByteArray := prog_1_method_8_code
def yX6_span : MethodName := ⟨RX6, "span", "(II)I"⟩
abbrev cX6_join : ByteArray := prog_1_method_9_code
def yX6_join : MethodName := ⟨RX6, "join", "(I)I"⟩
abbrev cX6_leave : ByteArray := prog_1_method_10_code
def yX6_leave : MethodName := ⟨RX6, "leave", "()I"⟩
abbrev cX6_step : ByteArray := prog_1_method_11_code
def yX6_step : MethodName := ⟨RX6, "step", "()I"⟩
abbrev cX6_stand : ByteArray := prog_1_method_12_code
def yX6_stand : MethodName := ⟨RX6, "stand", "()I"⟩
abbrev cX6_year : ByteArray := prog_1_method_13_code
def yX6_year : MethodName := ⟨RX6, "year", "(I)I"⟩
abbrev cX6_undo : ByteArray := prog_1_method_14_code
def yX6_undo : MethodName := ⟨RX6, "undo", "()I"⟩
abbrev cX6_over : ByteArray := prog_1_method_15_code
def yX6_over : MethodName := ⟨RX6, "over", "(I)I"⟩
abbrev cX6_fewest : ByteArray := prog_1_method_16_code
def yX6_fewest : MethodName := ⟨RX6, "fewest", "(I)I"⟩
abbrev cX6_mend : ByteArray := prog_1_method_17_code
def yX6_mend : MethodName := ⟨RX6, "mend", "(I)I"⟩
abbrev cX6_calls : ByteArray := prog_1_method_18_code
def yX6_calls : MethodName := ⟨RX6, "calls", "(I)I"⟩
abbrev cX6_second : ByteArray := prog_1_method_19_code
def yX6_second : MethodName := ⟨RX6, "second", "(I)I"⟩
abbrev cX6_years : ByteArray := prog_1_method_20_code
def yX6_years : MethodName := ⟨RX6, "years", "()I"⟩
abbrev cX6_seen : ByteArray := prog_1_method_21_code
def yX6_seen : MethodName := ⟨RX6, "seen", "(II)I"⟩
abbrev cX6_forget : ByteArray := prog_1_method_22_code
def yX6_forget : MethodName := ⟨RX6, "forget", "()I"⟩
abbrev cX6_stood : ByteArray := prog_1_method_23_code
def yX6_stood : MethodName := ⟨RX6, "stood", "(I)I"⟩
abbrev cX6_rain : ByteArray := prog_1_method_24_code
def yX6_rain : MethodName := ⟨RX6, "rain", "(I)I"⟩
abbrev cX6_century : ByteArray := prog_1_method_25_code
def yX6_century : MethodName := ⟨RX6, "century", "(III)I"⟩
abbrev cX6_keep : ByteArray := prog_1_method_26_code
def yX6_keep : MethodName := ⟨RX6, "keep", "()I"⟩
abbrev cX6_back : ByteArray := prog_1_method_27_code
def yX6_back : MethodName := ⟨RX6, "back", "()I"⟩
abbrev cX6_count : ByteArray := prog_1_method_28_code
def yX6_count : MethodName := ⟨RX6, "count", "(I)I"⟩
abbrev cX6_isBird : ByteArray := prog_1_method_29_code
def yX6_isBird : MethodName := ⟨RX6, "isBird", "(I)Z"⟩
abbrev cX6_loadNow : ByteArray := prog_1_method_30_code
def yX6_loadNow : MethodName := ⟨RX6, "loadNow", "(I)I"⟩
abbrev cX6_mends : ByteArray := prog_1_method_31_code
def yX6_mends : MethodName := ⟨RX6, "mends", "(II)Z"⟩
abbrev cX6_callMinute : ByteArray := prog_1_method_32_code
def yX6_callMinute : MethodName := ⟨RX6, "callMinute", "(I)I"⟩
abbrev cX6_bothComeOver : ByteArray := prog_1_method_33_code
def yX6_bothComeOver : MethodName := ⟨RX6, "bothComeOver", "(II)Z"⟩
abbrev cX6_isAsSeen : ByteArray := prog_1_method_34_code
def yX6_isAsSeen : MethodName := ⟨RX6, "isAsSeen", "(II)Z"⟩
abbrev cX6_comesOverByDraws : ByteArray := prog_1_method_35_code
def yX6_comesOverByDraws : MethodName := ⟨RX6, "comesOverByDraws", "(II)Z"⟩
abbrev cX6_drawnWind : ByteArray := prog_1_method_36_code
def yX6_drawnWind : MethodName := ⟨RX6, "drawnWind", "(III)I"⟩
def RX7 : String := "BirdBridgeModel"
def TX7 : u_T := fun k => match k with
  | 0 => ("BirdBridgeModel", "letters", "I", false)
  | 1 => ("BirdBridgeModel", "text", "[I", true)
  | 2 => ("BirdBridgeModel", "position", "I", false)
  | 3 => ("BirdBridgeModel", "numbers", "[I", true)
  | 4 => ("BirdBridgeModel", "numberMany", "I", false)
  | 5 => ("BirdBridgeModel", "faultAt", "I", false)
  | 6 => ("BirdBridgeModel", "readBirds", "I", false)
  | 7 => ("BirdBridgeModel", "readWinds", "I", false)
  | 8 => ("BirdBridgeModel", "read", "[I", true)
  | 9 => ("BirdBridgeModel", "readWind", "[I", true)
  | 10 => ("BirdBridgeModel", "readBroad", "I", false)
  | 11 => ("BirdBridgeModel", "readHeavy", "I", false)
  | 12 => ("BirdBridgeModel", "readMore", "I", false)
  | 13 => ("BirdBridgeModel", "birds", "I", false)
  | 14 => ("BirdBridgeModel", "bird", "[I", true)
  | 15 => ("BirdBridgeModel", "winds", "I", false)
  | 16 => ("BirdBridgeModel", "wind", "[I", true)
  | 17 => ("BirdBridgeModel", "broad", "I", false)
  | 18 => ("BirdBridgeModel", "heavy", "I", false)
  | 19 => ("BirdBridgeModel", "more", "I", false)
  | 20 => ("BirdBridgeModel", "now", "[I", true)
  | 21 => ("BirdBridgeModel", "tried", "[I", true)
  | 22 => ("BirdBridgeModel", "backOf", "[I", true)
  | 23 => ("BirdBridgeModel", "backs", "I", false)
  | 24 => ("BirdBridgeModel", "image", "[I", true)
  | 25 => ("BirdBridgeModel", "keptMany", "I", false)
  | 26 => ("BirdBridgeModel", "sight", "[I", true)
  | 27 => ("BirdBridgeModel", "sights", "I", false)
  | 28 => ("BirdBridgeModel", "found", "[I", true)
  | 29 => ("BirdBridgeModel", "loads", "[I", true)
  | 30 => ("BirdBridgeModel", "foundMany", "I", false)
  | 31 => ("BirdBridgeModel", "row", "[I", true)
  | _ => ("BirdBridgeModel", "next", "[I", true)
def tyX7 : Nat → FieldType := fun k => match k with
  | 0 => .int
  | 1 => .array .int
  | 2 => .int
  | 3 => .array .int
  | 4 => .int
  | 5 => .int
  | 6 => .int
  | 7 => .int
  | 8 => .array .int
  | 9 => .array .int
  | 10 => .int
  | 11 => .int
  | 12 => .int
  | 13 => .int
  | 14 => .array .int
  | 15 => .int
  | 16 => .array .int
  | 17 => .int
  | 18 => .int
  | 19 => .int
  | 20 => .array .int
  | 21 => .array .int
  | 22 => .array .int
  | 23 => .int
  | 24 => .array .int
  | 25 => .int
  | 26 => .array .int
  | 27 => .int
  | 28 => .array .int
  | 29 => .array .int
  | 30 => .int
  | 31 => .array .int
  | _ => .array .int
abbrev wsX70 : List Cond := u_ws RX7 TX7 33
theorem nmX7 : ∀ a, a < 33 → ∀ b, b < 33 → a ≠ b → (TX7 a).2.1 ≠ (TX7 b).2.1 := by decide +kernel
theorem tyX7_ok : ∀ k, k < 33 → parseFieldDescriptor (TX7 k).2.2.1 = some (tyX7 k) := by decide +kernel
abbrev cX7_init : ByteArray := prog_9_method_1_code
def yX7_init : MethodName := ⟨RX7, "<init>", "()V"⟩
abbrev cX7_layBird : ByteArray := prog_9_method_2_code
def yX7_layBird : MethodName := ⟨RX7, "layBird", "(IIIII)V"⟩
abbrev cX7_in : ByteArray := prog_9_method_3_code
def yX7_in : MethodName := ⟨RX7, "in", "(III)Z"⟩
abbrev cX7_has : ByteArray := prog_9_method_4_code
def yX7_has : MethodName := ⟨RX7, "has", "(II)Z"⟩
abbrev cX7_begin : ByteArray := prog_9_method_5_code
def yX7_begin : MethodName := ⟨RX7, "begin", "()V"⟩
abbrev cX7_write : ByteArray := prog_9_method_6_code
def yX7_write : MethodName := ⟨RX7, "write", "(I)I"⟩
abbrev cX7_wipe : ByteArray := prog_9_method_7_code
def yX7_wipe : MethodName := ⟨RX7, "wipe", "()I"⟩
abbrev cX7_letterAt : ByteArray := prog_9_method_8_code
def yX7_letterAt : MethodName := ⟨RX7, "letterAt", "(I)I"⟩
abbrev cX7_isRow : ByteArray := prog_9_method_9_code
def yX7_isRow : MethodName := ⟨RX7, "isRow", "(I)Z"⟩
abbrev cX7_isItem : ByteArray := prog_9_method_10_code
def yX7_isItem : MethodName := ⟨RX7, "isItem", "()Z"⟩
abbrev cX7_isRead : ByteArray := prog_9_method_11_code
def yX7_isRead : MethodName := ⟨RX7, "isRead", "()Z"⟩
abbrev cX7_fault : ByteArray := prog_9_method_12_code
def yX7_fault : MethodName := ⟨RX7, "fault", "()I"⟩
abbrev cX7_lay : ByteArray := prog_9_method_13_code
def yX7_lay : MethodName := ⟨RX7, "lay", "()I"⟩
abbrev cX7_isBird : ByteArray := prog_9_method_14_code
def yX7_isBird : MethodName := ⟨RX7, "isBird", "(I)Z"⟩
abbrev cX7_kindOf : ByteArray := prog_9_method_15_code
def yX7_kindOf : MethodName := ⟨RX7, "kindOf", "(I)I"⟩
abbrev cX7_placeIn : ByteArray := prog_9_method_16_code
def yX7_placeIn : MethodName := ⟨RX7, "placeIn", "(I)I"⟩
abbrev cX7_bird : ByteArray := prog_9_method_17_code
def yX7_bird : MethodName := ⟨RX7, "bird", "(II)I"⟩
abbrev cX7_windIn : ByteArray := prog_9_method_18_code
def yX7_windIn : MethodName := ⟨RX7, "windIn", "(I)I"⟩
abbrev cX7_wind : ByteArray := prog_9_method_19_code
def yX7_wind : MethodName := ⟨RX7, "wind", "(I)I"⟩
abbrev cX7_firstOf : ByteArray := prog_9_method_20_code
def yX7_firstOf : MethodName := ⟨RX7, "firstOf", "([II)I"⟩
abbrev cX7_spanned : ByteArray := prog_9_method_21_code
def yX7_spanned : MethodName := ⟨RX7, "spanned", "([I)I"⟩
abbrev cX7_isWhole : ByteArray := prog_9_method_22_code
def yX7_isWhole : MethodName := ⟨RX7, "isWhole", "([I)Z"⟩
abbrev cX7_isPair : ByteArray := prog_9_method_23_code
def yX7_isPair : MethodName := ⟨RX7, "isPair", "([II)Z"⟩
abbrev cX7_powerOf : ByteArray := prog_9_method_24_code
def yX7_powerOf : MethodName := ⟨RX7, "powerOf", "([II)I"⟩
abbrev cX7_holderOf : ByteArray := prog_9_method_25_code
def yX7_holderOf : MethodName := ⟨RX7, "holderOf", "([II)I"⟩
abbrev cX7_noLoads : ByteArray := prog_9_method_26_code
def yX7_noLoads : MethodName := ⟨RX7, "noLoads", "()V"⟩
abbrev cX7_bear : ByteArray := prog_9_method_27_code
def yX7_bear : MethodName := ⟨RX7, "bear", "([III)V"⟩
abbrev cX7_tire : ByteArray := prog_9_method_28_code
def yX7_tire : MethodName := ⟨RX7, "tire", "([I)V"⟩
abbrev cX7_holds : ByteArray := prog_9_method_29_code
def yX7_holds : MethodName := ⟨RX7, "holds", "([I)Z"⟩
abbrev cX7_weightIn : ByteArray := prog_9_method_30_code
def yX7_weightIn : MethodName := ⟨RX7, "weightIn", "(I)I"⟩
abbrev cX7_isOn : ByteArray := prog_9_method_31_code
def yX7_isOn : MethodName := ⟨RX7, "isOn", "(II)Z"⟩
abbrev cX7_passes : ByteArray := prog_9_method_32_code
def yX7_passes : MethodName := ⟨RX7, "passes", "([II)Z"⟩
abbrev cX7_span : ByteArray := prog_9_method_33_code
def yX7_span : MethodName := ⟨RX7, "span", "(II)I"⟩
abbrev cX7_copy : ByteArray := prog_9_method_34_code
def yX7_copy : MethodName := ⟨RX7, "copy", "([II[II)V"⟩
abbrev cX7_note : ByteArray := prog_9_method_35_code
def yX7_note : MethodName := ⟨RX7, "note", "()V"⟩
abbrev cX7_isShut : ByteArray := prog_9_method_36_code
def yX7_isShut : MethodName := ⟨RX7, "isShut", "()Z"⟩
abbrev cX7_mayJoin : ByteArray := prog_9_method_37_code
def yX7_mayJoin : MethodName := ⟨RX7, "mayJoin", "([II)Z"⟩
abbrev cX7_join : ByteArray := prog_9_method_38_code
def yX7_join : MethodName := ⟨RX7, "join", "(I)I"⟩
abbrev cX7_leave : ByteArray := prog_9_method_39_code
def yX7_leave : MethodName := ⟨RX7, "leave", "()I"⟩
abbrev cX7_step : ByteArray := prog_9_method_40_code
def yX7_step : MethodName := ⟨RX7, "step", "()I"⟩
abbrev cX7_stand : ByteArray := prog_9_method_41_code
def yX7_stand : MethodName := ⟨RX7, "stand", "()I"⟩
abbrev cX7_year : ByteArray := prog_9_method_42_code
def yX7_year : MethodName := ⟨RX7, "year", "(I)I"⟩
abbrev cX7_undo : ByteArray := prog_9_method_43_code
def yX7_undo : MethodName := ⟨RX7, "undo", "()I"⟩
abbrev cX7_goesOver : ByteArray := prog_9_method_44_code
def yX7_goesOver : MethodName := ⟨RX7, "goesOver", "([I)Z"⟩
abbrev cX7_over : ByteArray := prog_9_method_45_code
def yX7_over : MethodName := ⟨RX7, "over", "(I)I"⟩
abbrev cX7_freshen : ByteArray := prog_9_method_46_code
def yX7_freshen : MethodName := ⟨RX7, "freshen", "([I)V"⟩
abbrev cX7_findOf : ByteArray := prog_9_method_47_code
def yX7_findOf : MethodName := ⟨RX7, "findOf", "(I)Z"⟩
abbrev cX7_layFewest : ByteArray := prog_9_method_48_code
def yX7_layFewest : MethodName := ⟨RX7, "layFewest", "()V"⟩
abbrev cX7_fewest : ByteArray := prog_9_method_49_code
def yX7_fewest : MethodName := ⟨RX7, "fewest", "(I)I"⟩
abbrev cX7_mend : ByteArray := prog_9_method_50_code
def yX7_mend : MethodName := ⟨RX7, "mend", "(I)I"⟩
abbrev cX7_calls : ByteArray := prog_9_method_51_code
def yX7_calls : MethodName := ⟨RX7, "calls", "(I)I"⟩
abbrev cX7_bothGo : ByteArray := prog_9_method_52_code
def yX7_bothGo : MethodName := ⟨RX7, "bothGo", "(II)Z"⟩
abbrev cX7_second : ByteArray := prog_9_method_53_code
def yX7_second : MethodName := ⟨RX7, "second", "(I)I"⟩
abbrev cX7_years : ByteArray := prog_9_method_54_code
def yX7_years : MethodName := ⟨RX7, "years", "()I"⟩
abbrev cX7_seen : ByteArray := prog_9_method_55_code
def yX7_seen : MethodName := ⟨RX7, "seen", "(II)I"⟩
abbrev cX7_forget : ByteArray := prog_9_method_56_code
def yX7_forget : MethodName := ⟨RX7, "forget", "()I"⟩
abbrev cX7_isStood : ByteArray := prog_9_method_57_code
def yX7_isStood : MethodName := ⟨RX7, "isStood", "(II)Z"⟩
abbrev cX7_stood : ByteArray := prog_9_method_58_code
def yX7_stood : MethodName := ⟨RX7, "stood", "(I)I"⟩
abbrev cX7_rain : ByteArray := prog_9_method_59_code
def yX7_rain : MethodName := ⟨RX7, "rain", "(I)I"⟩
abbrev cX7_comesOver : ByteArray := prog_9_method_60_code
def yX7_comesOver : MethodName := ⟨RX7, "comesOver", "(II)Z"⟩
abbrev cX7_century : ByteArray := prog_9_method_61_code
def yX7_century : MethodName := ⟨RX7, "century", "(III)I"⟩
abbrev cX7_keep : ByteArray := prog_9_method_62_code
def yX7_keep : MethodName := ⟨RX7, "keep", "()I"⟩
abbrev cX7_back : ByteArray := prog_9_method_63_code
def yX7_back : MethodName := ⟨RX7, "back", "()I"⟩
abbrev cX7_count : ByteArray := prog_9_method_64_code
def yX7_count : MethodName := ⟨RX7, "count", "(I)I"⟩
def RJ9 : String := "java/lang/Math"
def TJ9 : u_T := fun k => match k with
  | _ => ("", "", "", false)
def tyJ9 : Nat → FieldType := fun k => match k with
  | _ => .int
abbrev wsJ90 : List Cond := u_ws RJ9 TJ9 0
theorem nmJ9 : ∀ a, a < 0 → ∀ b, b < 0 → a ≠ b → (TJ9 a).2.1 ≠ (TJ9 b).2.1 := by decide +kernel
theorem tyJ9_ok : ∀ k, k < 0 → parseFieldDescriptor (TJ9 k).2.2.1 = some (tyJ9 k) := by decide +kernel
abbrev cJ9_abs_0f7a4 : ByteArray := prog_10_method_59_code
def yJ9_abs_0f7a4 : MethodName := ⟨RJ9, "abs", "(I)I"⟩
abbrev cJ9_max_7cf53 : ByteArray := prog_10_method_65_code
def yJ9_max_7cf53 : MethodName := ⟨RJ9, "max", "(II)I"⟩
abbrev cJ9_min_7cf53 : ByteArray := prog_10_method_69_code
def yJ9_min_7cf53 : MethodName := ⟨RJ9, "min", "(II)I"⟩
def RJ0 : String := "java/lang/String"
def TJ0 : u_T := fun k => match k with
  | _ => ("", "", "", false)
def tyJ0 : Nat → FieldType := fun k => match k with
  | _ => .int
abbrev wsJ00 : List Cond := u_ws RJ0 TJ0 0
theorem nmJ0 : ∀ a, a < 0 → ∀ b, b < 0 → a ≠ b → (TJ0 a).2.1 ≠ (TJ0 b).2.1 := by decide +kernel
theorem tyJ0_ok : ∀ k, k < 0 → parseFieldDescriptor (TJ0 k).2.2.1 = some (tyJ0 k) := by decide +kernel
abbrev cJ0_length_8abf5 : ByteArray := prog_11_method_54_code
def yJ0_length_8abf5 : MethodName := ⟨RJ0, "length", "()I"⟩
abbrev cJ0_charAt_5068e : ByteArray := prog_11_method_56_code
def yJ0_charAt_5068e : MethodName := ⟨RJ0, "charAt", "(I)C"⟩
abbrev cJ0_coder_7d493 : ByteArray := prog_11_method_152_code
def yJ0_coder_7d493 : MethodName := ⟨RJ0, "coder", "()B"⟩
abbrev cJ0_isLatin1_aae02 : ByteArray := prog_11_method_154_code
def yJ0_isLatin1_aae02 : MethodName := ⟨RJ0, "isLatin1", "()Z"⟩
abbrev cJ0_checkIndex_df160 : ByteArray := prog_11_method_155_code
def yJ0_checkIndex_df160 : MethodName := ⟨RJ0, "checkIndex", "(II)V"⟩
def RJ1 : String := "java/lang/StringLatin1"
def TJ1 : u_T := fun k => match k with
  | _ => ("", "", "", false)
def tyJ1 : Nat → FieldType := fun k => match k with
  | _ => .int
abbrev wsJ10 : List Cond := u_ws RJ1 TJ1 0
theorem nmJ1 : ∀ a, a < 0 → ∀ b, b < 0 → a ≠ b → (TJ1 a).2.1 ≠ (TJ1 b).2.1 := by decide +kernel
theorem tyJ1_ok : ∀ k, k < 0 → parseFieldDescriptor (TJ1 k).2.2.1 = some (tyJ1 k) := by decide +kernel
abbrev cJ1_charAt_3b067 : ByteArray := prog_12_method_2_code
def yJ1_charAt_3b067 : MethodName := ⟨RJ1, "charAt", "([BI)C"⟩
def RJ2 : String := "java/lang/StringUTF16"
def TJ2 : u_T := fun k => match k with
  | _ => ("", "", "", false)
def tyJ2 : Nat → FieldType := fun k => match k with
  | _ => .int
abbrev wsJ20 : List Cond := u_ws RJ2 TJ2 0
theorem nmJ2 : ∀ a, a < 0 → ∀ b, b < 0 → a ≠ b → (TJ2 a).2.1 ≠ (TJ2 b).2.1 := by decide +kernel
theorem tyJ2_ok : ∀ k, k < 0 → parseFieldDescriptor (TJ2 k).2.2.1 = some (tyJ2 k) := by decide +kernel
abbrev cJ2_getChar_3b067 : ByteArray := prog_13_method_5_code
def yJ2_getChar_3b067 : MethodName := ⟨RJ2, "getChar", "([BI)C"⟩
abbrev cJ2_length_9d52b : ByteArray := prog_13_method_6_code
def yJ2_length_9d52b : MethodName := ⟨RJ2, "length", "([B)I"⟩
abbrev cJ2_charAt_3b067 : ByteArray := prog_13_method_83_code
def yJ2_charAt_3b067 : MethodName := ⟨RJ2, "charAt", "([BI)C"⟩
abbrev cJ2_checkIndex_2214a : ByteArray := prog_13_method_91_code
def yJ2_checkIndex_2214a : MethodName := ⟨RJ2, "checkIndex", "(I[B)V"⟩
def RJ10 : String := "java/lang/System"
def TJ10 : u_T := fun k => match k with
  | _ => ("", "", "", false)
def tyJ10 : Nat → FieldType := fun k => match k with
  | _ => .int
abbrev wsJ100 : List Cond := u_ws RJ10 TJ10 0
theorem nmJ10 : ∀ a, a < 0 → ∀ b, b < 0 → a ≠ b → (TJ10 a).2.1 ≠ (TJ10 b).2.1 := by decide +kernel
theorem tyJ10_ok : ∀ k, k < 0 → parseFieldDescriptor (TJ10 k).2.2.1 = some (tyJ10 k) := by decide +kernel
def RJ3 : String := "jdk/internal/util/Preconditions"
def TJ3 : u_T := fun k => match k with
  | _ => ("", "", "", false)
def tyJ3 : Nat → FieldType := fun k => match k with
  | _ => .int
abbrev wsJ30 : List Cond := u_ws RJ3 TJ3 0
theorem nmJ3 : ∀ a, a < 0 → ∀ b, b < 0 → a ≠ b → (TJ3 a).2.1 ≠ (TJ3 b).2.1 := by decide +kernel
theorem tyJ3_ok : ∀ k, k < 0 → parseFieldDescriptor (TJ3 k).2.2.1 = some (tyJ3 k) := by decide +kernel
abbrev cJ3_checkIndex_8e157 : ByteArray := prog_15_method_11_code
def yJ3_checkIndex_8e157 : MethodName := ⟨RJ3, "checkIndex", "(IILjava/util/function/BiFunction;)I"⟩
def RL : String := "BirdBridgeLaw"
abbrev cL_law : ByteArray := code
def yL_law : MethodName := ⟨RL, "law", "([I)Z"⟩
