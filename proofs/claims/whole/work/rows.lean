section
-- ===== PART A: goes FIRST, ahead of the names: the tables' words, and 'selects' of the private methods out of them =====
/-- a private method of a class that the tables say can be made, by its rows of tables_1 -/
def lw_okq (q : MethodName × Nat) : Prop := (q.1.cls ≠ "java/lang/invoke/MethodHandle" ∧ q.1.cls ≠ "java/lang/invoke/VarHandle") ∧ Cond.instantiable q.1.cls q.2 ∈ tables_1 ∧ Cond.privateMethod q.1 ∈ tables_1 ∧ Cond.instanceMethod q.1 ∈ tables_1
theorem lw_p0 : lw_okq (⟨"BirdBridge$Script", "readItem", "(I)I"⟩, 3) := ⟨⟨by decide +kernel, by decide +kernel⟩, List.mem_of_getElem? (i := 24) (by decide +kernel), List.mem_of_getElem? (i := 233) (by decide +kernel), List.mem_of_getElem? (i := 234) (by decide +kernel)⟩
theorem lw_p1 : lw_okq (⟨"BirdBridge$Script", "letterAt", "(I)C"⟩, 3) := ⟨⟨by decide +kernel, by decide +kernel⟩, List.mem_of_getElem? (i := 24) (by decide +kernel), List.mem_of_getElem? (i := 237) (by decide +kernel), List.mem_of_getElem? (i := 238) (by decide +kernel)⟩
theorem lw_p2 : lw_okq (⟨"BirdBridge$Script", "figuresFrom", "(I)I"⟩, 3) := ⟨⟨by decide +kernel, by decide +kernel⟩, List.mem_of_getElem? (i := 24) (by decide +kernel), List.mem_of_getElem? (i := 244) (by decide +kernel), List.mem_of_getElem? (i := 245) (by decide +kernel)⟩
theorem lw_p3 : lw_okq (⟨"BirdBridge$Script", "numberAt", "(II)I"⟩, 3) := ⟨⟨by decide +kernel, by decide +kernel⟩, List.mem_of_getElem? (i := 24) (by decide +kernel), List.mem_of_getElem? (i := 251) (by decide +kernel), List.mem_of_getElem? (i := 252) (by decide +kernel)⟩
theorem lw_p4 : lw_okq (⟨"BirdBridge$Flock", "takeBird", "(IIII)Z"⟩, 10) := ⟨⟨by decide +kernel, by decide +kernel⟩, List.mem_of_getElem? (i := 42) (by decide +kernel), List.mem_of_getElem? (i := 259) (by decide +kernel), List.mem_of_getElem? (i := 260) (by decide +kernel)⟩
theorem lw_p5 : lw_okq (⟨"BirdBridge$Flock", "takeRiver", "(I)Z"⟩, 10) := ⟨⟨by decide +kernel, by decide +kernel⟩, List.mem_of_getElem? (i := 42) (by decide +kernel), List.mem_of_getElem? (i := 263) (by decide +kernel), List.mem_of_getElem? (i := 264) (by decide +kernel)⟩
theorem lw_p6 : lw_okq (⟨"BirdBridge$Flock", "takeWind", "(I)Z"⟩, 10) := ⟨⟨by decide +kernel, by decide +kernel⟩, List.mem_of_getElem? (i := 42) (by decide +kernel), List.mem_of_getElem? (i := 267) (by decide +kernel), List.mem_of_getElem? (i := 268) (by decide +kernel)⟩
theorem lw_p7 : lw_okq (⟨"BirdBridge$Flock", "takeLoad", "(II)Z"⟩, 10) := ⟨⟨by decide +kernel, by decide +kernel⟩, List.mem_of_getElem? (i := 42) (by decide +kernel), List.mem_of_getElem? (i := 271) (by decide +kernel), List.mem_of_getElem? (i := 272) (by decide +kernel)⟩
theorem lw_p8 : lw_okq (⟨"BirdBridge", "isBird", "(I)Z"⟩, 11) := ⟨⟨by decide +kernel, by decide +kernel⟩, List.mem_of_getElem? (i := 16) (by decide +kernel), List.mem_of_getElem? (i := 369) (by decide +kernel), List.mem_of_getElem? (i := 370) (by decide +kernel)⟩
theorem lw_p9 : lw_okq (⟨"BirdBridge", "loadNow", "(I)I"⟩, 11) := ⟨⟨by decide +kernel, by decide +kernel⟩, List.mem_of_getElem? (i := 16) (by decide +kernel), List.mem_of_getElem? (i := 438) (by decide +kernel), List.mem_of_getElem? (i := 439) (by decide +kernel)⟩
theorem lw_p10 : lw_okq (⟨"BirdBridge$Bridge", "whoSpans", "(I)I"⟩, 5) := ⟨⟨by decide +kernel, by decide +kernel⟩, List.mem_of_getElem? (i := 89) (by decide +kernel), List.mem_of_getElem? (i := 479) (by decide +kernel), List.mem_of_getElem? (i := 480) (by decide +kernel)⟩
theorem lw_p11 : lw_okq (⟨"BirdBridge$Shelf", "giveUpOldest", "()V"⟩, 2) := ⟨⟨by decide +kernel, by decide +kernel⟩, List.mem_of_getElem? (i := 132) (by decide +kernel), List.mem_of_getElem? (i := 522) (by decide +kernel), List.mem_of_getElem? (i := 523) (by decide +kernel)⟩
theorem lw_p12 : lw_okq (⟨"BirdBridge$Search", "extend", "(II)V"⟩, 5) := ⟨⟨by decide +kernel, by decide +kernel⟩, List.mem_of_getElem? (i := 151) (by decide +kernel), List.mem_of_getElem? (i := 618) (by decide +kernel), List.mem_of_getElem? (i := 619) (by decide +kernel)⟩
theorem lw_p13 : lw_okq (⟨"BirdBridge$Search", "noteFound", "()V"⟩, 5) := ⟨⟨by decide +kernel, by decide +kernel⟩, List.mem_of_getElem? (i := 151) (by decide +kernel), List.mem_of_getElem? (i := 635) (by decide +kernel), List.mem_of_getElem? (i := 636) (by decide +kernel)⟩
theorem lw_p14 : lw_okq (⟨"BirdBridge", "mends", "(II)Z"⟩, 11) := ⟨⟨by decide +kernel, by decide +kernel⟩, List.mem_of_getElem? (i := 16) (by decide +kernel), List.mem_of_getElem? (i := 655) (by decide +kernel), List.mem_of_getElem? (i := 656) (by decide +kernel)⟩
theorem lw_p15 : lw_okq (⟨"BirdBridge", "callMinute", "(I)I"⟩, 11) := ⟨⟨by decide +kernel, by decide +kernel⟩, List.mem_of_getElem? (i := 16) (by decide +kernel), List.mem_of_getElem? (i := 667) (by decide +kernel), List.mem_of_getElem? (i := 668) (by decide +kernel)⟩
def lw_privs_1 : List (MethodName × Nat) := [(⟨"BirdBridge$Script", "readItem", "(I)I"⟩, 3), (⟨"BirdBridge$Script", "letterAt", "(I)C"⟩, 3), (⟨"BirdBridge$Script", "figuresFrom", "(I)I"⟩, 3), (⟨"BirdBridge$Script", "numberAt", "(II)I"⟩, 3), (⟨"BirdBridge$Flock", "takeBird", "(IIII)Z"⟩, 10), (⟨"BirdBridge$Flock", "takeRiver", "(I)Z"⟩, 10), (⟨"BirdBridge$Flock", "takeWind", "(I)Z"⟩, 10), (⟨"BirdBridge$Flock", "takeLoad", "(II)Z"⟩, 10), (⟨"BirdBridge", "isBird", "(I)Z"⟩, 11), (⟨"BirdBridge", "loadNow", "(I)I"⟩, 11), (⟨"BirdBridge$Bridge", "whoSpans", "(I)I"⟩, 5), (⟨"BirdBridge$Shelf", "giveUpOldest", "()V"⟩, 2), (⟨"BirdBridge$Search", "extend", "(II)V"⟩, 5), (⟨"BirdBridge$Search", "noteFound", "()V"⟩, 5), (⟨"BirdBridge", "mends", "(II)Z"⟩, 11), (⟨"BirdBridge", "callMinute", "(I)I"⟩, 11)]
theorem lw_r1 : ∀ q ∈ lw_privs_1, lw_okq q := List.forall_mem_cons.mpr ⟨lw_p0, List.forall_mem_cons.mpr ⟨lw_p1, List.forall_mem_cons.mpr ⟨lw_p2, List.forall_mem_cons.mpr ⟨lw_p3, List.forall_mem_cons.mpr ⟨lw_p4, List.forall_mem_cons.mpr ⟨lw_p5, List.forall_mem_cons.mpr ⟨lw_p6, List.forall_mem_cons.mpr ⟨lw_p7, List.forall_mem_cons.mpr ⟨lw_p8, List.forall_mem_cons.mpr ⟨lw_p9, List.forall_mem_cons.mpr ⟨lw_p10, List.forall_mem_cons.mpr ⟨lw_p11, List.forall_mem_cons.mpr ⟨lw_p12, List.forall_mem_cons.mpr ⟨lw_p13, List.forall_mem_cons.mpr ⟨lw_p14, List.forall_mem_cons.mpr ⟨lw_p15, fun _ h => absurd h List.not_mem_nil⟩⟩⟩⟩⟩⟩⟩⟩⟩⟩⟩⟩⟩⟩⟩⟩
theorem lw_p16 : lw_okq (⟨"BirdBridge", "bothComeOver", "(II)Z"⟩, 11) := ⟨⟨by decide +kernel, by decide +kernel⟩, List.mem_of_getElem? (i := 16) (by decide +kernel), List.mem_of_getElem? (i := 676) (by decide +kernel), List.mem_of_getElem? (i := 677) (by decide +kernel)⟩
theorem lw_p17 : lw_okq (⟨"BirdBridge", "isAsSeen", "(II)Z"⟩, 11) := ⟨⟨by decide +kernel, by decide +kernel⟩, List.mem_of_getElem? (i := 16) (by decide +kernel), List.mem_of_getElem? (i := 703) (by decide +kernel), List.mem_of_getElem? (i := 704) (by decide +kernel)⟩
theorem lw_p18 : lw_okq (⟨"BirdBridge", "comesOverByDraws", "(II)Z"⟩, 11) := ⟨⟨by decide +kernel, by decide +kernel⟩, List.mem_of_getElem? (i := 16) (by decide +kernel), List.mem_of_getElem? (i := 719) (by decide +kernel), List.mem_of_getElem? (i := 720) (by decide +kernel)⟩
theorem lw_p19 : lw_okq (⟨"BirdBridgeModel", "layBird", "(IIIII)V"⟩, 33) := ⟨⟨by decide +kernel, by decide +kernel⟩, List.mem_of_getElem? (i := 750) (by decide +kernel), List.mem_of_getElem? (i := 756) (by decide +kernel), List.mem_of_getElem? (i := 757) (by decide +kernel)⟩
theorem lw_p20 : lw_okq (⟨"BirdBridgeModel", "begin", "()V"⟩, 33) := ⟨⟨by decide +kernel, by decide +kernel⟩, List.mem_of_getElem? (i := 750) (by decide +kernel), List.mem_of_getElem? (i := 760) (by decide +kernel), List.mem_of_getElem? (i := 761) (by decide +kernel)⟩
theorem lw_p21 : lw_okq (⟨"BirdBridgeModel", "isRead", "()Z"⟩, 33) := ⟨⟨by decide +kernel, by decide +kernel⟩, List.mem_of_getElem? (i := 750) (by decide +kernel), List.mem_of_getElem? (i := 879) (by decide +kernel), List.mem_of_getElem? (i := 880) (by decide +kernel)⟩
theorem lw_p22 : lw_okq (⟨"BirdBridgeModel", "isItem", "()Z"⟩, 33) := ⟨⟨by decide +kernel, by decide +kernel⟩, List.mem_of_getElem? (i := 750) (by decide +kernel), List.mem_of_getElem? (i := 883) (by decide +kernel), List.mem_of_getElem? (i := 884) (by decide +kernel)⟩
theorem lw_p23 : lw_okq (⟨"BirdBridgeModel", "letterAt", "(I)I"⟩, 33) := ⟨⟨by decide +kernel, by decide +kernel⟩, List.mem_of_getElem? (i := 750) (by decide +kernel), List.mem_of_getElem? (i := 887) (by decide +kernel), List.mem_of_getElem? (i := 888) (by decide +kernel)⟩
theorem lw_p24 : lw_okq (⟨"BirdBridgeModel", "isRow", "(I)Z"⟩, 33) := ⟨⟨by decide +kernel, by decide +kernel⟩, List.mem_of_getElem? (i := 750) (by decide +kernel), List.mem_of_getElem? (i := 891) (by decide +kernel), List.mem_of_getElem? (i := 892) (by decide +kernel)⟩
theorem lw_p25 : lw_okq (⟨"BirdBridgeModel", "isBird", "(I)Z"⟩, 33) := ⟨⟨by decide +kernel, by decide +kernel⟩, List.mem_of_getElem? (i := 750) (by decide +kernel), List.mem_of_getElem? (i := 903) (by decide +kernel), List.mem_of_getElem? (i := 904) (by decide +kernel)⟩
theorem lw_p26 : lw_okq (⟨"BirdBridgeModel", "placeIn", "(I)I"⟩, 33) := ⟨⟨by decide +kernel, by decide +kernel⟩, List.mem_of_getElem? (i := 750) (by decide +kernel), List.mem_of_getElem? (i := 907) (by decide +kernel), List.mem_of_getElem? (i := 908) (by decide +kernel)⟩
theorem lw_p27 : lw_okq (⟨"BirdBridgeModel", "windIn", "(I)I"⟩, 33) := ⟨⟨by decide +kernel, by decide +kernel⟩, List.mem_of_getElem? (i := 750) (by decide +kernel), List.mem_of_getElem? (i := 915) (by decide +kernel), List.mem_of_getElem? (i := 916) (by decide +kernel)⟩
theorem lw_p28 : lw_okq (⟨"BirdBridgeModel", "noLoads", "()V"⟩, 33) := ⟨⟨by decide +kernel, by decide +kernel⟩, List.mem_of_getElem? (i := 750) (by decide +kernel), List.mem_of_getElem? (i := 923) (by decide +kernel), List.mem_of_getElem? (i := 924) (by decide +kernel)⟩
theorem lw_p29 : lw_okq (⟨"BirdBridgeModel", "weightIn", "(I)I"⟩, 33) := ⟨⟨by decide +kernel, by decide +kernel⟩, List.mem_of_getElem? (i := 750) (by decide +kernel), List.mem_of_getElem? (i := 930) (by decide +kernel), List.mem_of_getElem? (i := 931) (by decide +kernel)⟩
theorem lw_p30 : lw_okq (⟨"BirdBridgeModel", "bear", "([III)V"⟩, 33) := ⟨⟨by decide +kernel, by decide +kernel⟩, List.mem_of_getElem? (i := 750) (by decide +kernel), List.mem_of_getElem? (i := 934) (by decide +kernel), List.mem_of_getElem? (i := 935) (by decide +kernel)⟩
theorem lw_p31 : lw_okq (⟨"BirdBridgeModel", "holderOf", "([II)I"⟩, 33) := ⟨⟨by decide +kernel, by decide +kernel⟩, List.mem_of_getElem? (i := 750) (by decide +kernel), List.mem_of_getElem? (i := 938) (by decide +kernel), List.mem_of_getElem? (i := 939) (by decide +kernel)⟩
def lw_privs_2 : List (MethodName × Nat) := [(⟨"BirdBridge", "bothComeOver", "(II)Z"⟩, 11), (⟨"BirdBridge", "isAsSeen", "(II)Z"⟩, 11), (⟨"BirdBridge", "comesOverByDraws", "(II)Z"⟩, 11), (⟨"BirdBridgeModel", "layBird", "(IIIII)V"⟩, 33), (⟨"BirdBridgeModel", "begin", "()V"⟩, 33), (⟨"BirdBridgeModel", "isRead", "()Z"⟩, 33), (⟨"BirdBridgeModel", "isItem", "()Z"⟩, 33), (⟨"BirdBridgeModel", "letterAt", "(I)I"⟩, 33), (⟨"BirdBridgeModel", "isRow", "(I)Z"⟩, 33), (⟨"BirdBridgeModel", "isBird", "(I)Z"⟩, 33), (⟨"BirdBridgeModel", "placeIn", "(I)I"⟩, 33), (⟨"BirdBridgeModel", "windIn", "(I)I"⟩, 33), (⟨"BirdBridgeModel", "noLoads", "()V"⟩, 33), (⟨"BirdBridgeModel", "weightIn", "(I)I"⟩, 33), (⟨"BirdBridgeModel", "bear", "([III)V"⟩, 33), (⟨"BirdBridgeModel", "holderOf", "([II)I"⟩, 33)]
theorem lw_r2 : ∀ q ∈ lw_privs_2, lw_okq q := List.forall_mem_cons.mpr ⟨lw_p16, List.forall_mem_cons.mpr ⟨lw_p17, List.forall_mem_cons.mpr ⟨lw_p18, List.forall_mem_cons.mpr ⟨lw_p19, List.forall_mem_cons.mpr ⟨lw_p20, List.forall_mem_cons.mpr ⟨lw_p21, List.forall_mem_cons.mpr ⟨lw_p22, List.forall_mem_cons.mpr ⟨lw_p23, List.forall_mem_cons.mpr ⟨lw_p24, List.forall_mem_cons.mpr ⟨lw_p25, List.forall_mem_cons.mpr ⟨lw_p26, List.forall_mem_cons.mpr ⟨lw_p27, List.forall_mem_cons.mpr ⟨lw_p28, List.forall_mem_cons.mpr ⟨lw_p29, List.forall_mem_cons.mpr ⟨lw_p30, List.forall_mem_cons.mpr ⟨lw_p31, fun _ h => absurd h List.not_mem_nil⟩⟩⟩⟩⟩⟩⟩⟩⟩⟩⟩⟩⟩⟩⟩⟩
theorem lw_p32 : lw_okq (⟨"BirdBridgeModel", "firstOf", "([II)I"⟩, 33) := ⟨⟨by decide +kernel, by decide +kernel⟩, List.mem_of_getElem? (i := 750) (by decide +kernel), List.mem_of_getElem? (i := 942) (by decide +kernel), List.mem_of_getElem? (i := 943) (by decide +kernel)⟩
theorem lw_p33 : lw_okq (⟨"BirdBridgeModel", "powerOf", "([II)I"⟩, 33) := ⟨⟨by decide +kernel, by decide +kernel⟩, List.mem_of_getElem? (i := 750) (by decide +kernel), List.mem_of_getElem? (i := 946) (by decide +kernel), List.mem_of_getElem? (i := 947) (by decide +kernel)⟩
theorem lw_p34 : lw_okq (⟨"BirdBridgeModel", "kindOf", "(I)I"⟩, 33) := ⟨⟨by decide +kernel, by decide +kernel⟩, List.mem_of_getElem? (i := 750) (by decide +kernel), List.mem_of_getElem? (i := 950) (by decide +kernel), List.mem_of_getElem? (i := 951) (by decide +kernel)⟩
theorem lw_p35 : lw_okq (⟨"BirdBridgeModel", "isPair", "([II)Z"⟩, 33) := ⟨⟨by decide +kernel, by decide +kernel⟩, List.mem_of_getElem? (i := 750) (by decide +kernel), List.mem_of_getElem? (i := 954) (by decide +kernel), List.mem_of_getElem? (i := 955) (by decide +kernel)⟩
theorem lw_p36 : lw_okq (⟨"BirdBridgeModel", "isShut", "()Z"⟩, 33) := ⟨⟨by decide +kernel, by decide +kernel⟩, List.mem_of_getElem? (i := 750) (by decide +kernel), List.mem_of_getElem? (i := 962) (by decide +kernel), List.mem_of_getElem? (i := 963) (by decide +kernel)⟩
theorem lw_p37 : lw_okq (⟨"BirdBridgeModel", "mayJoin", "([II)Z"⟩, 33) := ⟨⟨by decide +kernel, by decide +kernel⟩, List.mem_of_getElem? (i := 750) (by decide +kernel), List.mem_of_getElem? (i := 966) (by decide +kernel), List.mem_of_getElem? (i := 967) (by decide +kernel)⟩
theorem lw_p38 : lw_okq (⟨"BirdBridgeModel", "isWhole", "([I)Z"⟩, 33) := ⟨⟨by decide +kernel, by decide +kernel⟩, List.mem_of_getElem? (i := 750) (by decide +kernel), List.mem_of_getElem? (i := 970) (by decide +kernel), List.mem_of_getElem? (i := 971) (by decide +kernel)⟩
theorem lw_p39 : lw_okq (⟨"BirdBridgeModel", "spanned", "([I)I"⟩, 33) := ⟨⟨by decide +kernel, by decide +kernel⟩, List.mem_of_getElem? (i := 750) (by decide +kernel), List.mem_of_getElem? (i := 974) (by decide +kernel), List.mem_of_getElem? (i := 975) (by decide +kernel)⟩
theorem lw_p40 : lw_okq (⟨"BirdBridgeModel", "note", "()V"⟩, 33) := ⟨⟨by decide +kernel, by decide +kernel⟩, List.mem_of_getElem? (i := 750) (by decide +kernel), List.mem_of_getElem? (i := 978) (by decide +kernel), List.mem_of_getElem? (i := 979) (by decide +kernel)⟩
theorem lw_p41 : lw_okq (⟨"BirdBridgeModel", "passes", "([II)Z"⟩, 33) := ⟨⟨by decide +kernel, by decide +kernel⟩, List.mem_of_getElem? (i := 750) (by decide +kernel), List.mem_of_getElem? (i := 993) (by decide +kernel), List.mem_of_getElem? (i := 994) (by decide +kernel)⟩
theorem lw_p42 : lw_okq (⟨"BirdBridgeModel", "holds", "([I)Z"⟩, 33) := ⟨⟨by decide +kernel, by decide +kernel⟩, List.mem_of_getElem? (i := 750) (by decide +kernel), List.mem_of_getElem? (i := 997) (by decide +kernel), List.mem_of_getElem? (i := 998) (by decide +kernel)⟩
theorem lw_p43 : lw_okq (⟨"BirdBridgeModel", "tire", "([I)V"⟩, 33) := ⟨⟨by decide +kernel, by decide +kernel⟩, List.mem_of_getElem? (i := 750) (by decide +kernel), List.mem_of_getElem? (i := 1001) (by decide +kernel), List.mem_of_getElem? (i := 1002) (by decide +kernel)⟩
theorem lw_p44 : lw_okq (⟨"BirdBridgeModel", "goesOver", "([I)Z"⟩, 33) := ⟨⟨by decide +kernel, by decide +kernel⟩, List.mem_of_getElem? (i := 750) (by decide +kernel), List.mem_of_getElem? (i := 1021) (by decide +kernel), List.mem_of_getElem? (i := 1022) (by decide +kernel)⟩
theorem lw_p45 : lw_okq (⟨"BirdBridgeModel", "layFewest", "()V"⟩, 33) := ⟨⟨by decide +kernel, by decide +kernel⟩, List.mem_of_getElem? (i := 750) (by decide +kernel), List.mem_of_getElem? (i := 1029) (by decide +kernel), List.mem_of_getElem? (i := 1030) (by decide +kernel)⟩
theorem lw_p46 : lw_okq (⟨"BirdBridgeModel", "findOf", "(I)Z"⟩, 33) := ⟨⟨by decide +kernel, by decide +kernel⟩, List.mem_of_getElem? (i := 750) (by decide +kernel), List.mem_of_getElem? (i := 1033) (by decide +kernel), List.mem_of_getElem? (i := 1034) (by decide +kernel)⟩
theorem lw_p47 : lw_okq (⟨"BirdBridgeModel", "freshen", "([I)V"⟩, 33) := ⟨⟨by decide +kernel, by decide +kernel⟩, List.mem_of_getElem? (i := 750) (by decide +kernel), List.mem_of_getElem? (i := 1037) (by decide +kernel), List.mem_of_getElem? (i := 1038) (by decide +kernel)⟩
def lw_privs_3 : List (MethodName × Nat) := [(⟨"BirdBridgeModel", "firstOf", "([II)I"⟩, 33), (⟨"BirdBridgeModel", "powerOf", "([II)I"⟩, 33), (⟨"BirdBridgeModel", "kindOf", "(I)I"⟩, 33), (⟨"BirdBridgeModel", "isPair", "([II)Z"⟩, 33), (⟨"BirdBridgeModel", "isShut", "()Z"⟩, 33), (⟨"BirdBridgeModel", "mayJoin", "([II)Z"⟩, 33), (⟨"BirdBridgeModel", "isWhole", "([I)Z"⟩, 33), (⟨"BirdBridgeModel", "spanned", "([I)I"⟩, 33), (⟨"BirdBridgeModel", "note", "()V"⟩, 33), (⟨"BirdBridgeModel", "passes", "([II)Z"⟩, 33), (⟨"BirdBridgeModel", "holds", "([I)Z"⟩, 33), (⟨"BirdBridgeModel", "tire", "([I)V"⟩, 33), (⟨"BirdBridgeModel", "goesOver", "([I)Z"⟩, 33), (⟨"BirdBridgeModel", "layFewest", "()V"⟩, 33), (⟨"BirdBridgeModel", "findOf", "(I)Z"⟩, 33), (⟨"BirdBridgeModel", "freshen", "([I)V"⟩, 33)]
theorem lw_r3 : ∀ q ∈ lw_privs_3, lw_okq q := List.forall_mem_cons.mpr ⟨lw_p32, List.forall_mem_cons.mpr ⟨lw_p33, List.forall_mem_cons.mpr ⟨lw_p34, List.forall_mem_cons.mpr ⟨lw_p35, List.forall_mem_cons.mpr ⟨lw_p36, List.forall_mem_cons.mpr ⟨lw_p37, List.forall_mem_cons.mpr ⟨lw_p38, List.forall_mem_cons.mpr ⟨lw_p39, List.forall_mem_cons.mpr ⟨lw_p40, List.forall_mem_cons.mpr ⟨lw_p41, List.forall_mem_cons.mpr ⟨lw_p42, List.forall_mem_cons.mpr ⟨lw_p43, List.forall_mem_cons.mpr ⟨lw_p44, List.forall_mem_cons.mpr ⟨lw_p45, List.forall_mem_cons.mpr ⟨lw_p46, List.forall_mem_cons.mpr ⟨lw_p47, fun _ h => absurd h List.not_mem_nil⟩⟩⟩⟩⟩⟩⟩⟩⟩⟩⟩⟩⟩⟩⟩⟩
theorem lw_p48 : lw_okq (⟨"BirdBridgeModel", "bothGo", "(II)Z"⟩, 33) := ⟨⟨by decide +kernel, by decide +kernel⟩, List.mem_of_getElem? (i := 750) (by decide +kernel), List.mem_of_getElem? (i := 1056) (by decide +kernel), List.mem_of_getElem? (i := 1057) (by decide +kernel)⟩
theorem lw_p49 : lw_okq (⟨"BirdBridgeModel", "isStood", "(II)Z"⟩, 33) := ⟨⟨by decide +kernel, by decide +kernel⟩, List.mem_of_getElem? (i := 750) (by decide +kernel), List.mem_of_getElem? (i := 1076) (by decide +kernel), List.mem_of_getElem? (i := 1077) (by decide +kernel)⟩
theorem lw_p50 : lw_okq (⟨"BirdBridgeModel", "comesOver", "(II)Z"⟩, 33) := ⟨⟨by decide +kernel, by decide +kernel⟩, List.mem_of_getElem? (i := 750) (by decide +kernel), List.mem_of_getElem? (i := 1090) (by decide +kernel), List.mem_of_getElem? (i := 1091) (by decide +kernel)⟩
def lw_privs_4 : List (MethodName × Nat) := [(⟨"BirdBridgeModel", "bothGo", "(II)Z"⟩, 33), (⟨"BirdBridgeModel", "isStood", "(II)Z"⟩, 33), (⟨"BirdBridgeModel", "comesOver", "(II)Z"⟩, 33)]
theorem lw_r4 : ∀ q ∈ lw_privs_4, lw_okq q := List.forall_mem_cons.mpr ⟨lw_p48, List.forall_mem_cons.mpr ⟨lw_p49, List.forall_mem_cons.mpr ⟨lw_p50, fun _ h => absurd h List.not_mem_nil⟩⟩⟩
def lw_privs : List (MethodName × Nat) := lw_privs_1 ++ (lw_privs_2 ++ (lw_privs_3 ++ (lw_privs_4)))
def lw_tbl : List Cond := k2_sels lw_privs ++ tables_1
theorem lw_privs_ok : ∀ q ∈ lw_privs, lw_okq q := by
  show ∀ q ∈ lw_privs_1 ++ (lw_privs_2 ++ (lw_privs_3 ++ (lw_privs_4))), lw_okq q
  exact List.forall_mem_append.mpr ⟨lw_r1, List.forall_mem_append.mpr ⟨lw_r2, List.forall_mem_append.mpr ⟨lw_r3, lw_r4⟩⟩⟩
def RX0 : String := "BirdBridge$Bridge"
def TX0 : u_T := fun k => match k with
  | 0 => ("BirdBridge$Bridge", "flock", "LBirdBridge$Flock;", true)
  | 1 => ("BirdBridge$Bridge", "order", "[I", true)
  | 2 => ("BirdBridge$Bridge", "tired", "[I", true)
  | 3 => ("BirdBridge$Bridge", "borne", "[I", true)
  | _ => ("BirdBridge$Bridge", "size", "I", false)
def tyX0 : Nat → FieldType := fun k => match k with
  | 0 => .object "BirdBridge$Flock"
  | 1 => .array .int
  | 2 => .array .int
  | 3 => .array .int
  | _ => .int
abbrev wsX00 : List Cond := u_ws RX0 TX0 5
theorem nmX0 : ∀ a, a < 5 → ∀ b, b < 5 → a ≠ b → (TX0 a).2.1 ≠ (TX0 b).2.1 := by decide +kernel
theorem tyX0_ok : ∀ k, k < 5 → parseFieldDescriptor (TX0 k).2.2.1 = some (tyX0 k) := by decide +kernel
abbrev cX0_init : ByteArray := prog_2_method_1_code
def yX0_init : MethodName := ⟨RX0, "<init>", "(LBirdBridge$Flock;)V"⟩
abbrev cX0_clear : ByteArray := prog_2_method_2_code
def yX0_clear : MethodName := ⟨RX0, "clear", "()V"⟩
abbrev cX0_rest : ByteArray := prog_2_method_3_code
def yX0_rest : MethodName := ⟨RX0, "rest", "()V"⟩
abbrev cX0_copyFrom : ByteArray := prog_2_method_4_code
def yX0_copyFrom : MethodName := ⟨RX0, "copyFrom", "(LBirdBridge$Bridge;)V"⟩
abbrev cX0_copyRested : ByteArray := prog_2_method_5_code
def yX0_copyRested : MethodName := ⟨RX0, "copyRested", "(LBirdBridge$Bridge;)V"⟩
abbrev cX0_size : ByteArray := prog_2_method_6_code
def yX0_size : MethodName := ⟨RX0, "size", "()I"⟩
abbrev cX0_birdAt : ByteArray := prog_2_method_7_code
def yX0_birdAt : MethodName := ⟨RX0, "birdAt", "(I)I"⟩
abbrev cX0_kindAt : ByteArray := prog_2_method_8_code
def yX0_kindAt : MethodName := ⟨RX0, "kindAt", "(I)I"⟩
abbrev cX0_borneAt : ByteArray := prog_2_method_9_code
def yX0_borneAt : MethodName := ⟨RX0, "borneAt", "(I)I"⟩
abbrev cX0_tiredOf : ByteArray := prog_2_method_10_code
def yX0_tiredOf : MethodName := ⟨RX0, "tiredOf", "(I)I"⟩
abbrev cX0_positionOf : ByteArray := prog_2_method_11_code
def yX0_positionOf : MethodName := ⟨RX0, "positionOf", "(I)I"⟩
abbrev cX0_firstPlaceOf : ByteArray := prog_2_method_12_code
def yX0_firstPlaceOf : MethodName := ⟨RX0, "firstPlaceOf", "(I)I"⟩
abbrev cX0_placesSpanned : ByteArray := prog_2_method_13_code
def yX0_placesSpanned : MethodName := ⟨RX0, "placesSpanned", "()I"⟩
abbrev cX0_isWhole : ByteArray := prog_2_method_14_code
def yX0_isWhole : MethodName := ⟨RX0, "isWhole", "()Z"⟩
abbrev cX0_mayJoin : ByteArray := prog_2_method_15_code
def yX0_mayJoin : MethodName := ⟨RX0, "mayJoin", "(I)Z"⟩
abbrev cX0_append : ByteArray := prog_2_method_16_code
def yX0_append : MethodName := ⟨RX0, "append", "(I)V"⟩
abbrev cX0_dropLast : ByteArray := prog_2_method_17_code
def yX0_dropLast : MethodName := ⟨RX0, "dropLast", "()V"⟩
abbrev cX0_replace : ByteArray := prog_2_method_18_code
def yX0_replace : MethodName := ⟨RX0, "replace", "(II)V"⟩
abbrev cX0_powerAt : ByteArray := prog_2_method_19_code
def yX0_powerAt : MethodName := ⟨RX0, "powerAt", "(I)I"⟩
abbrev cX0_unload : ByteArray := prog_2_method_20_code
def yX0_unload : MethodName := ⟨RX0, "unload", "()V"⟩
abbrev cX0_press : ByteArray := prog_2_method_21_code
def yX0_press : MethodName := ⟨RX0, "press", "(II)V"⟩
abbrev cX0_loadAlone : ByteArray := prog_2_method_22_code
def yX0_loadAlone : MethodName := ⟨RX0, "loadAlone", "(II)V"⟩
abbrev cX0_whoSpans : ByteArray := prog_2_method_23_code
def yX0_whoSpans : MethodName := ⟨RX0, "whoSpans", "(I)I"⟩
abbrev cX0_settle : ByteArray := prog_2_method_24_code
def yX0_settle : MethodName := ⟨RX0, "settle", "()Z"⟩
abbrev cX0_tire : ByteArray := prog_2_method_25_code
def yX0_tire : MethodName := ⟨RX0, "tire", "()V"⟩
abbrev cX0_walk : ByteArray := prog_2_method_26_code
def yX0_walk : MethodName := ⟨RX0, "walk", "(IIII)I"⟩
def RX1 : String := "BirdBridge$Flock"
def TX1 : u_T := fun k => match k with
  | 0 => ("BirdBridge$Flock", "strengths", "[I", true)
  | 1 => ("BirdBridge$Flock", "lengths", "[I", true)
  | 2 => ("BirdBridge$Flock", "kinds", "[I", true)
  | 3 => ("BirdBridge$Flock", "woods", "[I", true)
  | 4 => ("BirdBridge$Flock", "winds", "[I", true)
  | 5 => ("BirdBridge$Flock", "birds", "I", false)
  | 6 => ("BirdBridge$Flock", "windCount", "I", false)
  | 7 => ("BirdBridge$Flock", "width", "I", false)
  | 8 => ("BirdBridge$Flock", "heaviness", "I", false)
  | _ => ("BirdBridge$Flock", "growth", "I", false)
def tyX1 : Nat → FieldType := fun k => match k with
  | 0 => .array .int
  | 1 => .array .int
  | 2 => .array .int
  | 3 => .array .int
  | 4 => .array .int
  | 5 => .int
  | 6 => .int
  | 7 => .int
  | 8 => .int
  | _ => .int
abbrev wsX10 : List Cond := u_ws RX1 TX1 10
theorem nmX1 : ∀ a, a < 10 → ∀ b, b < 10 → a ≠ b → (TX1 a).2.1 ≠ (TX1 b).2.1 := by decide +kernel
theorem tyX1_ok : ∀ k, k < 10 → parseFieldDescriptor (TX1 k).2.2.1 = some (tyX1 k) := by decide +kernel
abbrev cX1_init : ByteArray := prog_3_method_1_code
def yX1_init : MethodName := ⟨RX1, "<init>", "()V"⟩
abbrev cX1_clear : ByteArray := prog_3_method_2_code
def yX1_clear : MethodName := ⟨RX1, "clear", "()V"⟩
abbrev cX1_copyFrom : ByteArray := prog_3_method_3_code
def yX1_copyFrom : MethodName := ⟨RX1, "copyFrom", "(LBirdBridge$Flock;)V"⟩
abbrev cX1_take : ByteArray := prog_3_method_4_code
def yX1_take : MethodName := ⟨RX1, "take", "(C[I)Z"⟩
abbrev cX1_takeBird : ByteArray := prog_3_method_5_code
def yX1_takeBird : MethodName := ⟨RX1, "takeBird", "(IIII)Z"⟩
abbrev cX1_takeRiver : ByteArray := prog_3_method_6_code
def yX1_takeRiver : MethodName := ⟨RX1, "takeRiver", "(I)Z"⟩
abbrev cX1_takeWind : ByteArray := prog_3_method_7_code
def yX1_takeWind : MethodName := ⟨RX1, "takeWind", "(I)Z"⟩
abbrev cX1_takeLoad : ByteArray := prog_3_method_8_code
def yX1_takeLoad : MethodName := ⟨RX1, "takeLoad", "(II)Z"⟩
abbrev cX1_birds : ByteArray := prog_3_method_9_code
def yX1_birds : MethodName := ⟨RX1, "birds", "()I"⟩
abbrev cX1_width : ByteArray := prog_3_method_10_code
def yX1_width : MethodName := ⟨RX1, "width", "()I"⟩
abbrev cX1_strengthOf : ByteArray := prog_3_method_11_code
def yX1_strengthOf : MethodName := ⟨RX1, "strengthOf", "(I)I"⟩
abbrev cX1_lengthOf : ByteArray := prog_3_method_12_code
def yX1_lengthOf : MethodName := ⟨RX1, "lengthOf", "(I)I"⟩
abbrev cX1_kindOf : ByteArray := prog_3_method_13_code
def yX1_kindOf : MethodName := ⟨RX1, "kindOf", "(I)I"⟩
abbrev cX1_woodOf : ByteArray := prog_3_method_14_code
def yX1_woodOf : MethodName := ⟨RX1, "woodOf", "(I)I"⟩
abbrev cX1_windIn : ByteArray := prog_3_method_15_code
def yX1_windIn : MethodName := ⟨RX1, "windIn", "(I)I"⟩
abbrev cX1_weightIn : ByteArray := prog_3_method_16_code
def yX1_weightIn : MethodName := ⟨RX1, "weightIn", "(I)I"⟩
abbrev cX1_hasCrow : ByteArray := prog_3_method_17_code
def yX1_hasCrow : MethodName := ⟨RX1, "hasCrow", "()Z"⟩
def RX2 : String := "BirdBridge$Night"
def TX2 : u_T := fun k => match k with
  | 0 => ("BirdBridge$Night", "flock", "LBirdBridge$Flock;", true)
  | 1 => ("BirdBridge$Night", "bridge", "LBirdBridge$Bridge;", true)
  | 2 => ("BirdBridge$Night", "minute", "I", false)
  | 3 => ("BirdBridge$Night", "year", "I", false)
  | 4 => ("BirdBridge$Night", "place", "I", false)
  | _ => ("BirdBridge$Night", "broken", "Z", false)
def tyX2 : Nat → FieldType := fun k => match k with
  | 0 => .object "BirdBridge$Flock"
  | 1 => .object "BirdBridge$Bridge"
  | 2 => .int
  | 3 => .int
  | 4 => .int
  | _ => .boolean
abbrev wsX20 : List Cond := u_ws RX2 TX2 6
theorem nmX2 : ∀ a, a < 6 → ∀ b, b < 6 → a ≠ b → (TX2 a).2.1 ≠ (TX2 b).2.1 := by decide +kernel
theorem tyX2_ok : ∀ k, k < 6 → parseFieldDescriptor (TX2 k).2.2.1 = some (tyX2 k) := by decide +kernel
abbrev cX2_init : ByteArray := prog_4_method_1_code
def yX2_init : MethodName := ⟨RX2, "<init>", "(LBirdBridge$Flock;)V"⟩
abbrev cX2_begin : ByteArray := prog_4_method_2_code
def yX2_begin : MethodName := ⟨RX2, "begin", "()V"⟩
abbrev cX2_copyFrom : ByteArray := prog_4_method_3_code
def yX2_copyFrom : MethodName := ⟨RX2, "copyFrom", "(LBirdBridge$Night;)V"⟩
abbrev cX2_bridge : ByteArray := prog_4_method_4_code
def yX2_bridge : MethodName := ⟨RX2, "bridge", "()LBirdBridge$Bridge;"⟩
abbrev cX2_minute : ByteArray := prog_4_method_5_code
def yX2_minute : MethodName := ⟨RX2, "minute", "()I"⟩
abbrev cX2_yearNow : ByteArray := prog_4_method_6_code
def yX2_yearNow : MethodName := ⟨RX2, "yearNow", "()I"⟩
abbrev cX2_setYear : ByteArray := prog_4_method_7_code
def yX2_setYear : MethodName := ⟨RX2, "setYear", "(I)V"⟩
abbrev cX2_place : ByteArray := prog_4_method_8_code
def yX2_place : MethodName := ⟨RX2, "place", "()I"⟩
abbrev cX2_isBroken : ByteArray := prog_4_method_9_code
def yX2_isBroken : MethodName := ⟨RX2, "isBroken", "()Z"⟩
abbrev cX2_weight : ByteArray := prog_4_method_10_code
def yX2_weight : MethodName := ⟨RX2, "weight", "()I"⟩
abbrev cX2_isOnBridge : ByteArray := prog_4_method_11_code
def yX2_isOnBridge : MethodName := ⟨RX2, "isOnBridge", "()Z"⟩
abbrev cX2_isFixed : ByteArray := prog_4_method_12_code
def yX2_isFixed : MethodName := ⟨RX2, "isFixed", "()Z"⟩
abbrev cX2_passMinuteAt : ByteArray := prog_4_method_13_code
def yX2_passMinuteAt : MethodName := ⟨RX2, "passMinuteAt", "(I)Z"⟩
def RX3 : String := "BirdBridge$Script"
def TX3 : u_T := fun k => match k with
  | 0 => ("BirdBridge$Script", "letters", "[C", true)
  | 1 => ("BirdBridge$Script", "numbers", "[I", true)
  | _ => ("BirdBridge$Script", "length", "I", false)
def tyX3 : Nat → FieldType := fun k => match k with
  | 0 => .array .char
  | 1 => .array .int
  | _ => .int
abbrev wsX30 : List Cond := u_ws RX3 TX3 3
theorem nmX3 : ∀ a, a < 3 → ∀ b, b < 3 → a ≠ b → (TX3 a).2.1 ≠ (TX3 b).2.1 := by decide +kernel
theorem tyX3_ok : ∀ k, k < 3 → parseFieldDescriptor (TX3 k).2.2.1 = some (tyX3 k) := by decide +kernel
abbrev cX3_init : ByteArray := prog_5_method_1_code
def yX3_init : MethodName := ⟨RX3, "<init>", "()V"⟩
abbrev cX3_length : ByteArray := prog_5_method_2_code
def yX3_length : MethodName := ⟨RX3, "length", "()I"⟩
abbrev cX3_clear : ByteArray := prog_5_method_3_code
def yX3_clear : MethodName := ⟨RX3, "clear", "()V"⟩
abbrev cX3_append : ByteArray := prog_5_method_4_code
def yX3_append : MethodName := ⟨RX3, "append", "(I)Z"⟩
abbrev cX3_readInto : ByteArray := prog_5_method_5_code
def yX3_readInto : MethodName := ⟨RX3, "readInto", "(LBirdBridge$Flock;)I"⟩
abbrev cX3_readItem : ByteArray := prog_5_method_6_code
def yX3_readItem : MethodName := ⟨RX3, "readItem", "(I)I"⟩
abbrev cX3_numbersBehind : ByteArray := prog_5_method_7_code
def yX3_numbersBehind : MethodName := ⟨RX3, "numbersBehind", "(C)I"⟩
abbrev cX3_figuresFrom : ByteArray := prog_5_method_8_code
def yX3_figuresFrom : MethodName := ⟨RX3, "figuresFrom", "(I)I"⟩
abbrev cX3_numberAt : ByteArray := prog_5_method_9_code
def yX3_numberAt : MethodName := ⟨RX3, "numberAt", "(II)I"⟩
abbrev cX3_isFigure : ByteArray := prog_5_method_10_code
def yX3_isFigure : MethodName := ⟨RX3, "isFigure", "(C)Z"⟩
abbrev cX3_letterAt : ByteArray := prog_5_method_11_code
def yX3_letterAt : MethodName := ⟨RX3, "letterAt", "(I)C"⟩
def RX4 : String := "BirdBridge$Search"
def TX4 : u_T := fun k => match k with
  | 0 => ("BirdBridge$Search", "flock", "LBirdBridge$Flock;", true)
  | 1 => ("BirdBridge$Search", "tried", "LBirdBridge$Bridge;", true)
  | 2 => ("BirdBridge$Search", "found", "[I", true)
  | 3 => ("BirdBridge$Search", "foundSize", "I", false)
  | _ => ("BirdBridge$Search", "foundWeight", "I", false)
def tyX4 : Nat → FieldType := fun k => match k with
  | 0 => .object "BirdBridge$Flock"
  | 1 => .object "BirdBridge$Bridge"
  | 2 => .array .int
  | 3 => .int
  | _ => .int
abbrev wsX40 : List Cond := u_ws RX4 TX4 5
theorem nmX4 : ∀ a, a < 5 → ∀ b, b < 5 → a ≠ b → (TX4 a).2.1 ≠ (TX4 b).2.1 := by decide +kernel
theorem tyX4_ok : ∀ k, k < 5 → parseFieldDescriptor (TX4 k).2.2.1 = some (tyX4 k) := by decide +kernel
abbrev cX4_init : ByteArray := prog_6_method_1_code
def yX4_init : MethodName := ⟨RX4, "<init>", "(LBirdBridge$Flock;)V"⟩
abbrev cX4_begin : ByteArray := prog_6_method_2_code
def yX4_begin : MethodName := ⟨RX4, "begin", "()V"⟩
abbrev cX4_find : ByteArray := prog_6_method_3_code
def yX4_find : MethodName := ⟨RX4, "find", "(I)V"⟩
abbrev cX4_foundSize : ByteArray := prog_6_method_4_code
def yX4_foundSize : MethodName := ⟨RX4, "foundSize", "()I"⟩
abbrev cX4_foundAt : ByteArray := prog_6_method_5_code
def yX4_foundAt : MethodName := ⟨RX4, "foundAt", "(I)I"⟩
abbrev cX4_extend : ByteArray := prog_6_method_6_code
def yX4_extend : MethodName := ⟨RX4, "extend", "(II)V"⟩
abbrev cX4_noteFound : ByteArray := prog_6_method_7_code
def yX4_noteFound : MethodName := ⟨RX4, "noteFound", "()V"⟩
def RX5 : String := "BirdBridge$Shelf"
def TX5 : u_T := fun k => match k with
  | 0 => ("BirdBridge$Shelf", "nights", "[LBirdBridge$Night;", true)
  | _ => ("BirdBridge$Shelf", "size", "I", false)
def tyX5 : Nat → FieldType := fun k => match k with
  | 0 => .array (.object "BirdBridge$Night")
  | _ => .int
abbrev wsX50 : List Cond := u_ws RX5 TX5 2
theorem nmX5 : ∀ a, a < 2 → ∀ b, b < 2 → a ≠ b → (TX5 a).2.1 ≠ (TX5 b).2.1 := by decide +kernel
theorem tyX5_ok : ∀ k, k < 2 → parseFieldDescriptor (TX5 k).2.2.1 = some (tyX5 k) := by decide +kernel
abbrev cX5_init : ByteArray := prog_7_method_1_code
def yX5_init : MethodName := ⟨RX5, "<init>", "(LBirdBridge$Flock;I)V"⟩
abbrev cX5_size : ByteArray := prog_7_method_2_code
def yX5_size : MethodName := ⟨RX5, "size", "()I"⟩
abbrev cX5_isFull : ByteArray := prog_7_method_3_code
def yX5_isFull : MethodName := ⟨RX5, "isFull", "()Z"⟩
abbrev cX5_clear : ByteArray := prog_7_method_4_code
def yX5_clear : MethodName := ⟨RX5, "clear", "()V"⟩
abbrev cX5_put : ByteArray := prog_7_method_5_code
def yX5_put : MethodName := ⟨RX5, "put", "(LBirdBridge$Night;)V"⟩
abbrev cX5_giveUpOldest : ByteArray := prog_7_method_6_code
def yX5_giveUpOldest : MethodName := ⟨RX5, "giveUpOldest", "()V"⟩
abbrev cX5_takeInto : ByteArray := prog_7_method_7_code
def yX5_takeInto : MethodName := ⟨RX5, "takeInto", "(LBirdBridge$Night;)Z"⟩
def RX6 : String := "BirdBridge"
def TX6 : u_T := fun k => match k with
  | 0 => ("BirdBridge", "script", "LBirdBridge$Script;", true)
  | 1 => ("BirdBridge", "laid", "LBirdBridge$Flock;", true)
  | 2 => ("BirdBridge", "draft", "LBirdBridge$Flock;", true)
  | 3 => ("BirdBridge", "night", "LBirdBridge$Night;", true)
  | 4 => ("BirdBridge", "trial", "LBirdBridge$Bridge;", true)
  | 5 => ("BirdBridge", "past", "LBirdBridge$Shelf;", true)
  | 6 => ("BirdBridge", "kept", "LBirdBridge$Shelf;", true)
  | 7 => ("BirdBridge", "search", "LBirdBridge$Search;", true)
  | 8 => ("BirdBridge", "seenWhich", "[I", true)
  | 9 => ("BirdBridge", "seenTired", "[I", true)
  | _ => ("BirdBridge", "seenSize", "I", false)
def tyX6 : Nat → FieldType := fun k => match k with
  | 0 => .object "BirdBridge$Script"
  | 1 => .object "BirdBridge$Flock"
  | 2 => .object "BirdBridge$Flock"
  | 3 => .object "BirdBridge$Night"
  | 4 => .object "BirdBridge$Bridge"
  | 5 => .object "BirdBridge$Shelf"
  | 6 => .object "BirdBridge$Shelf"
  | 7 => .object "BirdBridge$Search"
  | 8 => .array .int
  | 9 => .array .int
  | _ => .int
abbrev wsX60 : List Cond := u_ws RX6 TX6 11
theorem nmX6 : ∀ a, a < 11 → ∀ b, b < 11 → a ≠ b → (TX6 a).2.1 ≠ (TX6 b).2.1 := by decide +kernel
theorem tyX6_ok : ∀ k, k < 11 → parseFieldDescriptor (TX6 k).2.2.1 = some (tyX6 k) := by decide +kernel
abbrev cX6_init : ByteArray := prog_1_method_1_code
def yX6_init : MethodName := ⟨RX6, "<init>", "()V"⟩
abbrev cX6_write : ByteArray := prog_1_method_2_code
def yX6_write : MethodName := ⟨RX6, "write", "(I)I"⟩
abbrev cX6_wipe : ByteArray := prog_1_method_3_code
def yX6_wipe : MethodName := ⟨RX6, "wipe", "()I"⟩
abbrev cX6_fault : ByteArray := prog_1_method_4_code
def yX6_fault : MethodName := ⟨RX6, "fault", "()I"⟩
abbrev cX6_lay : ByteArray := prog_1_method_5_code
def yX6_lay : MethodName := ⟨RX6, "lay", "()I"⟩
abbrev cX6_bird : ByteArray := prog_1_method_6_code
def yX6_bird : MethodName := ⟨RX6, "bird", "(II)I"⟩
abbrev cX6_wind : ByteArray := prog_1_method_7_code
def yX6_wind : MethodName := ⟨RX6, "wind", "(I)I"⟩
abbrev cX6_span : ByteArray := prog_1_method_8_code
def yX6_span : MethodName := ⟨RX6, "span", "(II)I"⟩
abbrev cX6_join : ByteArray := prog_1_method_9_code
def yX6_join : MethodName := ⟨RX6, "join", "(I)I"⟩
abbrev cX6_leave : ByteArray := prog_1_method_10_code
def yX6_leave : MethodName := ⟨RX6, "leave", "()I"⟩
abbrev cX6_step : ByteArray := prog_1_method_11_code
def yX6_step : MethodName := ⟨RX6, "step", "()I"⟩
abbrev cX6_stand : ByteArray := prog_1_method_12_code
def yX6_stand : MethodName := ⟨RX6, "stand", "()I"⟩
abbrev cX6_year : ByteArray := prog_1_method_13_code
def yX6_year : MethodName := ⟨RX6, "year", "(I)I"⟩
abbrev cX6_undo : ByteArray := prog_1_method_14_code
def yX6_undo : MethodName := ⟨RX6, "undo", "()I"⟩
abbrev cX6_over : ByteArray := prog_1_method_15_code
def yX6_over : MethodName := ⟨RX6, "over", "(I)I"⟩
abbrev cX6_fewest : ByteArray := prog_1_method_16_code
def yX6_fewest : MethodName := ⟨RX6, "fewest", "(I)I"⟩
abbrev cX6_mend : ByteArray := prog_1_method_17_code
def yX6_mend : MethodName := ⟨RX6, "mend", "(I)I"⟩
abbrev cX6_calls : ByteArray := prog_1_method_18_code
def yX6_calls : MethodName := ⟨RX6, "calls", "(I)I"⟩
abbrev cX6_second : ByteArray := prog_1_method_19_code
def yX6_second : MethodName := ⟨RX6, "second", "(I)I"⟩
abbrev cX6_years : ByteArray := prog_1_method_20_code
def yX6_years : MethodName := ⟨RX6, "years", "()I"⟩
abbrev cX6_seen : ByteArray := prog_1_method_21_code
def yX6_seen : MethodName := ⟨RX6, "seen", "(II)I"⟩
abbrev cX6_forget : ByteArray := prog_1_method_22_code
def yX6_forget : MethodName := ⟨RX6, "forget", "()I"⟩
abbrev cX6_stood : ByteArray := prog_1_method_23_code
def yX6_stood : MethodName := ⟨RX6, "stood", "(I)I"⟩
abbrev cX6_rain : ByteArray := prog_1_method_24_code
def yX6_rain : MethodName := ⟨RX6, "rain", "(I)I"⟩
abbrev cX6_century : ByteArray := prog_1_method_25_code
def yX6_century : MethodName := ⟨RX6, "century", "(III)I"⟩
abbrev cX6_keep : ByteArray := prog_1_method_26_code
def yX6_keep : MethodName := ⟨RX6, "keep", "()I"⟩
abbrev cX6_back : ByteArray := prog_1_method_27_code
def yX6_back : MethodName := ⟨RX6, "back", "()I"⟩
abbrev cX6_count : ByteArray := prog_1_method_28_code
def yX6_count : MethodName := ⟨RX6, "count", "(I)I"⟩
abbrev cX6_isBird : ByteArray := prog_1_method_29_code
def yX6_isBird : MethodName := ⟨RX6, "isBird", "(I)Z"⟩
abbrev cX6_loadNow : ByteArray := prog_1_method_30_code
def yX6_loadNow : MethodName := ⟨RX6, "loadNow", "(I)I"⟩
abbrev cX6_mends : ByteArray := prog_1_method_31_code
def yX6_mends : MethodName := ⟨RX6, "mends", "(II)Z"⟩
abbrev cX6_callMinute : ByteArray := prog_1_method_32_code
def yX6_callMinute : MethodName := ⟨RX6, "callMinute", "(I)I"⟩
abbrev cX6_bothComeOver : ByteArray := prog_1_method_33_code
def yX6_bothComeOver : MethodName := ⟨RX6, "bothComeOver", "(II)Z"⟩
abbrev cX6_isAsSeen : ByteArray := prog_1_method_34_code
def yX6_isAsSeen : MethodName := ⟨RX6, "isAsSeen", "(II)Z"⟩
abbrev cX6_comesOverByDraws : ByteArray := prog_1_method_35_code
def yX6_comesOverByDraws : MethodName := ⟨RX6, "comesOverByDraws", "(II)Z"⟩
abbrev cX6_drawnWind : ByteArray := prog_1_method_36_code
def yX6_drawnWind : MethodName := ⟨RX6, "drawnWind", "(III)I"⟩
def RX7 : String := "BirdBridgeModel"
def TX7 : u_T := fun k => match k with
  | 0 => ("BirdBridgeModel", "letters", "I", false)
  | 1 => ("BirdBridgeModel", "text", "[I", true)
  | 2 => ("BirdBridgeModel", "position", "I", false)
  | 3 => ("BirdBridgeModel", "numbers", "[I", true)
  | 4 => ("BirdBridgeModel", "numberMany", "I", false)
  | 5 => ("BirdBridgeModel", "faultAt", "I", false)
  | 6 => ("BirdBridgeModel", "readBirds", "I", false)
  | 7 => ("BirdBridgeModel", "readWinds", "I", false)
  | 8 => ("BirdBridgeModel", "read", "[I", true)
  | 9 => ("BirdBridgeModel", "readWind", "[I", true)
  | 10 => ("BirdBridgeModel", "readBroad", "I", false)
  | 11 => ("BirdBridgeModel", "readHeavy", "I", false)
  | 12 => ("BirdBridgeModel", "readMore", "I", false)
  | 13 => ("BirdBridgeModel", "birds", "I", false)
  | 14 => ("BirdBridgeModel", "bird", "[I", true)
  | 15 => ("BirdBridgeModel", "winds", "I", false)
  | 16 => ("BirdBridgeModel", "wind", "[I", true)
  | 17 => ("BirdBridgeModel", "broad", "I", false)
  | 18 => ("BirdBridgeModel", "heavy", "I", false)
  | 19 => ("BirdBridgeModel", "more", "I", false)
  | 20 => ("BirdBridgeModel", "now", "[I", true)
  | 21 => ("BirdBridgeModel", "tried", "[I", true)
  | 22 => ("BirdBridgeModel", "backOf", "[I", true)
  | 23 => ("BirdBridgeModel", "backs", "I", false)
  | 24 => ("BirdBridgeModel", "image", "[I", true)
  | 25 => ("BirdBridgeModel", "keptMany", "I", false)
  | 26 => ("BirdBridgeModel", "sight", "[I", true)
  | 27 => ("BirdBridgeModel", "sights", "I", false)
  | 28 => ("BirdBridgeModel", "found", "[I", true)
  | 29 => ("BirdBridgeModel", "loads", "[I", true)
  | 30 => ("BirdBridgeModel", "foundMany", "I", false)
  | 31 => ("BirdBridgeModel", "row", "[I", true)
  | _ => ("BirdBridgeModel", "next", "[I", true)
def tyX7 : Nat → FieldType := fun k => match k with
  | 0 => .int
  | 1 => .array .int
  | 2 => .int
  | 3 => .array .int
  | 4 => .int
  | 5 => .int
  | 6 => .int
  | 7 => .int
  | 8 => .array .int
  | 9 => .array .int
  | 10 => .int
  | 11 => .int
  | 12 => .int
  | 13 => .int
  | 14 => .array .int
  | 15 => .int
  | 16 => .array .int
  | 17 => .int
  | 18 => .int
  | 19 => .int
  | 20 => .array .int
  | 21 => .array .int
  | 22 => .array .int
  | 23 => .int
  | 24 => .array .int
  | 25 => .int
  | 26 => .array .int
  | 27 => .int
  | 28 => .array .int
  | 29 => .array .int
  | 30 => .int
  | 31 => .array .int
  | _ => .array .int
abbrev wsX70 : List Cond := u_ws RX7 TX7 33
theorem nmX7 : ∀ a, a < 33 → ∀ b, b < 33 → a ≠ b → (TX7 a).2.1 ≠ (TX7 b).2.1 := by decide +kernel
theorem tyX7_ok : ∀ k, k < 33 → parseFieldDescriptor (TX7 k).2.2.1 = some (tyX7 k) := by decide +kernel
abbrev cX7_init : ByteArray := prog_9_method_1_code
def yX7_init : MethodName := ⟨RX7, "<init>", "()V"⟩
abbrev cX7_layBird : ByteArray := prog_9_method_2_code
def yX7_layBird : MethodName := ⟨RX7, "layBird", "(IIIII)V"⟩
abbrev cX7_in : ByteArray := prog_9_method_3_code
def yX7_in : MethodName := ⟨RX7, "in", "(III)Z"⟩
abbrev cX7_has : ByteArray := prog_9_method_4_code
def yX7_has : MethodName := ⟨RX7, "has", "(II)Z"⟩
abbrev cX7_begin : ByteArray := prog_9_method_5_code
def yX7_begin : MethodName := ⟨RX7, "begin", "()V"⟩
abbrev cX7_write : ByteArray := prog_9_method_6_code
def yX7_write : MethodName := ⟨RX7, "write", "(I)I"⟩
abbrev cX7_wipe : ByteArray := prog_9_method_7_code
def yX7_wipe : MethodName := ⟨RX7, "wipe", "()I"⟩
abbrev cX7_letterAt : ByteArray := prog_9_method_8_code
def yX7_letterAt : MethodName := ⟨RX7, "letterAt", "(I)I"⟩
abbrev cX7_isRow : ByteArray := prog_9_method_9_code
def yX7_isRow : MethodName := ⟨RX7, "isRow", "(I)Z"⟩
abbrev cX7_isItem : ByteArray := prog_9_method_10_code
def yX7_isItem : MethodName := ⟨RX7, "isItem", "()Z"⟩
abbrev cX7_isRead : ByteArray := prog_9_method_11_code
def yX7_isRead : MethodName := ⟨RX7, "isRead", "()Z"⟩
abbrev cX7_fault : ByteArray := prog_9_method_12_code
def yX7_fault : MethodName := ⟨RX7, "fault", "()I"⟩
abbrev cX7_lay : ByteArray := prog_9_method_13_code
def yX7_lay : MethodName := ⟨RX7, "lay", "()I"⟩
abbrev cX7_isBird : ByteArray := prog_9_method_14_code
def yX7_isBird : MethodName := ⟨RX7, "isBird", "(I)Z"⟩
abbrev cX7_kindOf : ByteArray := prog_9_method_15_code
def yX7_kindOf : MethodName := ⟨RX7, "kindOf", "(I)I"⟩
abbrev cX7_placeIn : ByteArray := prog_9_method_16_code
def yX7_placeIn : MethodName := ⟨RX7, "placeIn", "(I)I"⟩
abbrev cX7_bird : ByteArray := prog_9_method_17_code
def yX7_bird : MethodName := ⟨RX7, "bird", "(II)I"⟩
abbrev cX7_windIn : ByteArray := prog_9_method_18_code
def yX7_windIn : MethodName := ⟨RX7, "windIn", "(I)I"⟩
abbrev cX7_wind : ByteArray := prog_9_method_19_code
def yX7_wind : MethodName := ⟨RX7, "wind", "(I)I"⟩
abbrev cX7_firstOf : ByteArray := prog_9_method_20_code
def yX7_firstOf : MethodName := ⟨RX7, "firstOf", "([II)I"⟩
abbrev cX7_spanned : ByteArray := prog_9_method_21_code
def yX7_spanned : MethodName := ⟨RX7, "spanned", "([I)I"⟩
abbrev cX7_isWhole : ByteArray := prog_9_method_22_code
def yX7_isWhole : MethodName := ⟨RX7, "isWhole", "([I)Z"⟩
abbrev cX7_isPair : ByteArray := prog_9_method_23_code
def yX7_isPair : MethodName := ⟨RX7, "isPair", "([II)Z"⟩
abbrev cX7_powerOf : ByteArray := prog_9_method_24_code
def yX7_powerOf : MethodName := ⟨RX7, "powerOf", "([II)I"⟩
abbrev cX7_holderOf : ByteArray := prog_9_method_25_code
def yX7_holderOf : MethodName := ⟨RX7, "holderOf", "([II)I"⟩
abbrev cX7_noLoads : ByteArray := prog_9_method_26_code
def yX7_noLoads : MethodName := ⟨RX7, "noLoads", "()V"⟩
abbrev cX7_bear : ByteArray := prog_9_method_27_code
def yX7_bear : MethodName := ⟨RX7, "bear", "([III)V"⟩
abbrev cX7_tire : ByteArray := prog_9_method_28_code
def yX7_tire : MethodName := ⟨RX7, "tire", "([I)V"⟩
abbrev cX7_holds : ByteArray := prog_9_method_29_code
def yX7_holds : MethodName := ⟨RX7, "holds", "([I)Z"⟩
abbrev cX7_weightIn : ByteArray := prog_9_method_30_code
def yX7_weightIn : MethodName := ⟨RX7, "weightIn", "(I)I"⟩
abbrev cX7_isOn : ByteArray := prog_9_method_31_code
def yX7_isOn : MethodName := ⟨RX7, "isOn", "(II)Z"⟩
abbrev cX7_passes : ByteArray := prog_9_method_32_code
def yX7_passes : MethodName := ⟨RX7, "passes", "([II)Z"⟩
abbrev cX7_span : ByteArray := prog_9_method_33_code
def yX7_span : MethodName := ⟨RX7, "span", "(II)I"⟩
abbrev cX7_copy : ByteArray := prog_9_method_34_code
def yX7_copy : MethodName := ⟨RX7, "copy", "([II[II)V"⟩
abbrev cX7_note : ByteArray := prog_9_method_35_code
def yX7_note : MethodName := ⟨RX7, "note", "()V"⟩
abbrev cX7_isShut : ByteArray := prog_9_method_36_code
def yX7_isShut : MethodName := ⟨RX7, "isShut", "()Z"⟩
abbrev cX7_mayJoin : ByteArray := prog_9_method_37_code
def yX7_mayJoin : MethodName := ⟨RX7, "mayJoin", "([II)Z"⟩
abbrev cX7_join : ByteArray := prog_9_method_38_code
def yX7_join : MethodName := ⟨RX7, "join", "(I)I"⟩
abbrev cX7_leave : ByteArray := prog_9_method_39_code
def yX7_leave : MethodName := ⟨RX7, "leave", "()I"⟩
abbrev cX7_step : ByteArray := prog_9_method_40_code
def yX7_step : MethodName := ⟨RX7, "step", "()I"⟩
abbrev cX7_stand : ByteArray := prog_9_method_41_code
def yX7_stand : MethodName := ⟨RX7, "stand", "()I"⟩
abbrev cX7_year : ByteArray := prog_9_method_42_code
def yX7_year : MethodName := ⟨RX7, "year", "(I)I"⟩
abbrev cX7_undo : ByteArray := prog_9_method_43_code
def yX7_undo : MethodName := ⟨RX7, "undo", "()I"⟩
abbrev cX7_goesOver : ByteArray := prog_9_method_44_code
def yX7_goesOver : MethodName := ⟨RX7, "goesOver", "([I)Z"⟩
abbrev cX7_over : ByteArray := prog_9_method_45_code
def yX7_over : MethodName := ⟨RX7, "over", "(I)I"⟩
abbrev cX7_freshen : ByteArray := prog_9_method_46_code
def yX7_freshen : MethodName := ⟨RX7, "freshen", "([I)V"⟩
abbrev cX7_findOf : ByteArray := prog_9_method_47_code
def yX7_findOf : MethodName := ⟨RX7, "findOf", "(I)Z"⟩
abbrev cX7_layFewest : ByteArray := prog_9_method_48_code
def yX7_layFewest : MethodName := ⟨RX7, "layFewest", "()V"⟩
abbrev cX7_fewest : ByteArray := prog_9_method_49_code
def yX7_fewest : MethodName := ⟨RX7, "fewest", "(I)I"⟩
abbrev cX7_mend : ByteArray := prog_9_method_50_code
def yX7_mend : MethodName := ⟨RX7, "mend", "(I)I"⟩
abbrev cX7_calls : ByteArray := prog_9_method_51_code
def yX7_calls : MethodName := ⟨RX7, "calls", "(I)I"⟩
abbrev cX7_bothGo : ByteArray := prog_9_method_52_code
def yX7_bothGo : MethodName := ⟨RX7, "bothGo", "(II)Z"⟩
abbrev cX7_second : ByteArray := prog_9_method_53_code
def yX7_second : MethodName := ⟨RX7, "second", "(I)I"⟩
abbrev cX7_years : ByteArray := prog_9_method_54_code
def yX7_years : MethodName := ⟨RX7, "years", "()I"⟩
abbrev cX7_seen : ByteArray := prog_9_method_55_code
def yX7_seen : MethodName := ⟨RX7, "seen", "(II)I"⟩
abbrev cX7_forget : ByteArray := prog_9_method_56_code
def yX7_forget : MethodName := ⟨RX7, "forget", "()I"⟩
abbrev cX7_isStood : ByteArray := prog_9_method_57_code
def yX7_isStood : MethodName := ⟨RX7, "isStood", "(II)Z"⟩
abbrev cX7_stood : ByteArray := prog_9_method_58_code
def yX7_stood : MethodName := ⟨RX7, "stood", "(I)I"⟩
abbrev cX7_rain : ByteArray := prog_9_method_59_code
def yX7_rain : MethodName := ⟨RX7, "rain", "(I)I"⟩
abbrev cX7_comesOver : ByteArray := prog_9_method_60_code
def yX7_comesOver : MethodName := ⟨RX7, "comesOver", "(II)Z"⟩
abbrev cX7_century : ByteArray := prog_9_method_61_code
def yX7_century : MethodName := ⟨RX7, "century", "(III)I"⟩
abbrev cX7_keep : ByteArray := prog_9_method_62_code
def yX7_keep : MethodName := ⟨RX7, "keep", "()I"⟩
abbrev cX7_back : ByteArray := prog_9_method_63_code
def yX7_back : MethodName := ⟨RX7, "back", "()I"⟩
abbrev cX7_count : ByteArray := prog_9_method_64_code
def yX7_count : MethodName := ⟨RX7, "count", "(I)I"⟩
def RJ9 : String := "java/lang/Math"
def TJ9 : u_T := fun k => match k with
  | _ => ("", "", "", false)
def tyJ9 : Nat → FieldType := fun k => match k with
  | _ => .int
abbrev wsJ90 : List Cond := u_ws RJ9 TJ9 0
theorem nmJ9 : ∀ a, a < 0 → ∀ b, b < 0 → a ≠ b → (TJ9 a).2.1 ≠ (TJ9 b).2.1 := by decide +kernel
theorem tyJ9_ok : ∀ k, k < 0 → parseFieldDescriptor (TJ9 k).2.2.1 = some (tyJ9 k) := by decide +kernel
abbrev cJ9_abs_0f7a4 : ByteArray := prog_10_method_59_code
def yJ9_abs_0f7a4 : MethodName := ⟨RJ9, "abs", "(I)I"⟩
abbrev cJ9_max_7cf53 : ByteArray := prog_10_method_65_code
def yJ9_max_7cf53 : MethodName := ⟨RJ9, "max", "(II)I"⟩
abbrev cJ9_min_7cf53 : ByteArray := prog_10_method_69_code
def yJ9_min_7cf53 : MethodName := ⟨RJ9, "min", "(II)I"⟩
def RJ0 : String := "java/lang/String"
def TJ0 : u_T := fun k => match k with
  | _ => ("", "", "", false)
def tyJ0 : Nat → FieldType := fun k => match k with
  | _ => .int
abbrev wsJ00 : List Cond := u_ws RJ0 TJ0 0
theorem nmJ0 : ∀ a, a < 0 → ∀ b, b < 0 → a ≠ b → (TJ0 a).2.1 ≠ (TJ0 b).2.1 := by decide +kernel
theorem tyJ0_ok : ∀ k, k < 0 → parseFieldDescriptor (TJ0 k).2.2.1 = some (tyJ0 k) := by decide +kernel
abbrev cJ0_length_8abf5 : ByteArray := prog_11_method_54_code
def yJ0_length_8abf5 : MethodName := ⟨RJ0, "length", "()I"⟩
abbrev cJ0_charAt_5068e : ByteArray := prog_11_method_56_code
def yJ0_charAt_5068e : MethodName := ⟨RJ0, "charAt", "(I)C"⟩
abbrev cJ0_coder_7d493 : ByteArray := prog_11_method_152_code
def yJ0_coder_7d493 : MethodName := ⟨RJ0, "coder", "()B"⟩
abbrev cJ0_isLatin1_aae02 : ByteArray := prog_11_method_154_code
def yJ0_isLatin1_aae02 : MethodName := ⟨RJ0, "isLatin1", "()Z"⟩
abbrev cJ0_checkIndex_df160 : ByteArray := prog_11_method_155_code
def yJ0_checkIndex_df160 : MethodName := ⟨RJ0, "checkIndex", "(II)V"⟩
def RJ1 : String := "java/lang/StringLatin1"
def TJ1 : u_T := fun k => match k with
  | _ => ("", "", "", false)
def tyJ1 : Nat → FieldType := fun k => match k with
  | _ => .int
abbrev wsJ10 : List Cond := u_ws RJ1 TJ1 0
theorem nmJ1 : ∀ a, a < 0 → ∀ b, b < 0 → a ≠ b → (TJ1 a).2.1 ≠ (TJ1 b).2.1 := by decide +kernel
theorem tyJ1_ok : ∀ k, k < 0 → parseFieldDescriptor (TJ1 k).2.2.1 = some (tyJ1 k) := by decide +kernel
abbrev cJ1_charAt_3b067 : ByteArray := prog_12_method_2_code
def yJ1_charAt_3b067 : MethodName := ⟨RJ1, "charAt", "([BI)C"⟩
def RJ2 : String := "java/lang/StringUTF16"
def TJ2 : u_T := fun k => match k with
  | _ => ("", "", "", false)
def tyJ2 : Nat → FieldType := fun k => match k with
  | _ => .int
abbrev wsJ20 : List Cond := u_ws RJ2 TJ2 0
theorem nmJ2 : ∀ a, a < 0 → ∀ b, b < 0 → a ≠ b → (TJ2 a).2.1 ≠ (TJ2 b).2.1 := by decide +kernel
theorem tyJ2_ok : ∀ k, k < 0 → parseFieldDescriptor (TJ2 k).2.2.1 = some (tyJ2 k) := by decide +kernel
abbrev cJ2_getChar_3b067 : ByteArray := prog_13_method_5_code
def yJ2_getChar_3b067 : MethodName := ⟨RJ2, "getChar", "([BI)C"⟩
abbrev cJ2_length_9d52b : ByteArray := prog_13_method_6_code
def yJ2_length_9d52b : MethodName := ⟨RJ2, "length", "([B)I"⟩
abbrev cJ2_charAt_3b067 : ByteArray := prog_13_method_83_code
def yJ2_charAt_3b067 : MethodName := ⟨RJ2, "charAt", "([BI)C"⟩
abbrev cJ2_checkIndex_2214a : ByteArray := prog_13_method_91_code
def yJ2_checkIndex_2214a : MethodName := ⟨RJ2, "checkIndex", "(I[B)V"⟩
def RJ10 : String := "java/lang/System"
def TJ10 : u_T := fun k => match k with
  | _ => ("", "", "", false)
def tyJ10 : Nat → FieldType := fun k => match k with
  | _ => .int
abbrev wsJ100 : List Cond := u_ws RJ10 TJ10 0
theorem nmJ10 : ∀ a, a < 0 → ∀ b, b < 0 → a ≠ b → (TJ10 a).2.1 ≠ (TJ10 b).2.1 := by decide +kernel
theorem tyJ10_ok : ∀ k, k < 0 → parseFieldDescriptor (TJ10 k).2.2.1 = some (tyJ10 k) := by decide +kernel
def RJ3 : String := "jdk/internal/util/Preconditions"
def TJ3 : u_T := fun k => match k with
  | _ => ("", "", "", false)
def tyJ3 : Nat → FieldType := fun k => match k with
  | _ => .int
abbrev wsJ30 : List Cond := u_ws RJ3 TJ3 0
theorem nmJ3 : ∀ a, a < 0 → ∀ b, b < 0 → a ≠ b → (TJ3 a).2.1 ≠ (TJ3 b).2.1 := by decide +kernel
theorem tyJ3_ok : ∀ k, k < 0 → parseFieldDescriptor (TJ3 k).2.2.1 = some (tyJ3 k) := by decide +kernel
abbrev cJ3_checkIndex_8e157 : ByteArray := prog_15_method_11_code
def yJ3_checkIndex_8e157 : MethodName := ⟨RJ3, "checkIndex", "(IILjava/util/function/BiFunction;)I"⟩
def RL : String := "BirdBridgeLaw"
abbrev cL_law : ByteArray := code
def yL_law : MethodName := ⟨RL, "law", "([I)Z"⟩
end
section
/-! ===== the heap as numbers: role, slot -> int; a role has a fixed kind, references are fixed by kind ===== -/
abbrev HF : Type := Nat → Nat → Int32
def hst (F : HF) (k : Nat) (f : Nat → Int32) : HF := fun a => if a = k then f else F a
def hup (F : HF) (k j : Nat) (v : Int32) : HF := hst F k (upd (F k) j v)
theorem hst_s (F : HF) (k : Nat) (f : Nat → Int32) : hst F k f k = f := by simp [hst]
theorem hst_n (F : HF) {k a : Nat} (f : Nat → Int32) (h : a ≠ k) : hst F k f a = F a := by simp [hst, h]
theorem hup_s (F : HF) (k j : Nat) (v : Int32) : hup F k j v k = upd (F k) j v := hst_s F k _
theorem hup_n (F : HF) {k a : Nat} (j : Nat) (v : Int32) (h : a ≠ k) : hup F k j v a = F a := hst_n F _ h
abbrev clsL : List vw_C := [(RX0, TX0, 5), (RX1, TX1, 10), (RX2, TX2, 6), (RX3, TX3, 3), (RX4, TX4, 5), (RX5, TX5, 2), (RX6, TX6, 11), (RX7, TX7, 33)]
/-- field kinds: 1 a reference, 0 an int, 2 a boolean -/
def fkL : List (List Nat) := [[1, 1, 1, 1, 0], [1, 1, 1, 1, 1, 0, 0, 0, 0, 0], [1, 1, 0, 0, 0, 2], [1, 1, 0], [1, 1, 1, 0, 0], [1, 0], [1, 1, 1, 1, 1, 1, 1, 1, 1, 1, 0], [0, 1, 0, 1, 0, 0, 0, 0, 1, 1, 0, 0, 0, 0, 1, 0, 1, 0, 0, 0, 1, 1, 1, 0, 1, 0, 1, 0, 1, 1, 0, 1, 1]]
def isr (c j : Nat) : Bool := (fkL.getD c []).getD j 0 == 1
def nf (c : Nat) : Nat := (fkL.getD c []).length
def rfc (c k j : Nat) : Nat := match c with
  | 0 => (match j with | 0 => 4 | i + 1 => k + (i + 1))
  | 1 => k + (j + 1)
  | 2 => (match j with | 0 => 4 | _ => k + 1)
  | 3 => k + (j + 1)
  | 4 => (match j with | 0 => 4 | 1 => k + 1 | _ => k + 5)
  | 5 => k + 1
  | 6 => (match j with | 0 => 1 | 1 => 4 | 2 => 10 | 3 => 16 | 4 => 21 | 5 => 25 | 6 => 67 | 7 => 79 | 8 => 85 | _ => 86)
  | _ => k + j
def kdL : List (Nat × Nat) := [(9, 0), (6, 0), (1, 200), (0, 4), (4, 0), (0, 8), (0, 8), (0, 8), (0, 8), (0, 8), (4, 0), (0, 8), (0, 8), (0, 8), (0, 8), (0, 8), (5, 0), (3, 0), (0, 8), (0, 8), (0, 8), (3, 0), (0, 8), (0, 8), (0, 8), (8, 0), (2, 8), (5, 0), (3, 0), (0, 8), (0, 8), (0, 8), (5, 0), (3, 0), (0, 8), (0, 8), (0, 8), (5, 0), (3, 0), (0, 8), (0, 8), (0, 8), (5, 0), (3, 0), (0, 8), (0, 8), (0, 8), (5, 0), (3, 0), (0, 8), (0, 8), (0, 8), (5, 0), (3, 0), (0, 8), (0, 8), (0, 8), (5, 0), (3, 0), (0, 8), (0, 8), (0, 8), (5, 0), (3, 0), (0, 8), (0, 8), (0, 8), (8, 0), (2, 2), (5, 0), (3, 0), (0, 8), (0, 8), (0, 8), (5, 0), (3, 0), (0, 8), (0, 8), (0, 8), (7, 0), (3, 0), (0, 8), (0, 8), (0, 8), (0, 8), (0, 6), (0, 6), (99, 0), (99, 0), (99, 0), (99, 0), (99, 0), (99, 0), (99, 0), (99, 0), (99, 0), (99, 0), (99, 0), (99, 0), (99, 0), (10, 0), (0, 200), (99, 0), (0, 4), (99, 0), (99, 0), (99, 0), (99, 0), (0, 32), (0, 8), (99, 0), (99, 0), (99, 0), (99, 0), (0, 32), (99, 0), (0, 8), (99, 0), (99, 0), (99, 0), (0, 21), (0, 21), (0, 168), (99, 0), (0, 42), (99, 0), (0, 12), (99, 0), (0, 8), (0, 8), (99, 0), (0, 21), (0, 9)]
def kd (k : Nat) : Nat × Nat := kdL.getD k (99, 0)
def fldL (ad : Nat → Nat) (F : HF) (c k : Nat) : List Value := (List.range (nf c)).map (fun j => if isr c j = true then Value.ref (ad (rfc c k j)) else Value.int (F k j))
def cellK (dA : Nat → ClassId) (ad : Nat → Nat) (F : HF) (k : Nat) (q : Nat × Nat) : va_E := match q with
  | (0, n) => .inl (dA 0, n, .inl (F k))
  | (1, n) => .inl (dA 1, n, .inl (F k))
  | (2, n) => .inl (dA 2, n, .inr (.inr (.inr (.inr (fun j => some (ad (F k j).toNatClampNeg))))))
  | (c + 3, _) => .inr (c, fldL ad F c k)
def cellE (dA : Nat → ClassId) (ad : Nat → Nat) (F : HF) (k : Nat) : va_E := cellK dA ad F k (kd k)
def wl (dA : Nat → ClassId) (ad : Nat → Nat) (R : List Nat) (F : HF) : va_W := R.map (fun k => (ad k, cellE dA ad F k))
abbrev tysL (dA : Nat → ClassId) : List (ClassId × FieldType) := [(dA 0, .int), (dA 1, .char), (dA 2, .object RX2)]
theorem fldL_cong {ad : Nat → Nat} {F G : HF} {c k : Nat} (h : F k = G k) : fldL ad F c k = fldL ad G c k := by simp [fldL, h]
theorem cellE_cong {dA : Nat → ClassId} {ad : Nat → Nat} {F G : HF} {k : Nat} (h : F k = G k) : cellE dA ad F k = cellE dA ad G k := by
  unfold cellE cellK
  split <;> simp [h, fldL_cong h]
theorem wl_get {dA : Nat → ClassId} {ad : Nat → Nat} {R : List Nat} {F : HF} {q0 k : Nat} (h : R[q0]? = some k) : (wl dA ad R F)[q0]? = some (ad k, cellE dA ad F k) := by simp [wl, h]
theorem wl_set {dA : Nat → ClassId} {ad : Nat → Nat} {R : List Nat} {F F' : HF} {A : Nat → Prop} {q0 k : Nat} {e : va_E} (hD : va_D A (wl dA ad R F)) (hq : R[q0]? = some k) (ho : ∀ j, j ≠ k → F' j = F j) (he : cellE dA ad F' k = e) : (wl dA ad R F).set q0 (ad k, e) = wl dA ad R F' := by
  apply List.ext_getElem?
  intro i
  rw [List.getElem?_set]
  by_cases hi : q0 = i
  · subst hi
    have hlt : q0 < (wl dA ad R F).length := by
      have := (List.getElem?_eq_some_iff.mp hq).1
      simpa [wl] using this
    simp [hlt, wl_get hq, he]
  · simp only [hi, if_false]
    cases hj : R[i]? with
    | none => simp [wl, hj]
    | some j =>
      have hne : j ≠ k := by
        intro e1
        subst e1
        exact hi (hD.1 q0 i _ _ (wl_get hq) (wl_get hj) rfl)
      rw [wl_get hj, wl_get hj, cellE_cong (ho j hne)]
/-- an object of a class, an array of ints, of chars, of nights -/
def OB (R : List Nat) (k c : Nat) : Prop := kd k = (c + 3, 0) ∧ k ∈ R
def IA (R : List Nat) (k n : Nat) : Prop := kd k = (0, n) ∧ k ∈ R
def CA (R : List Nat) (k n : Nat) : Prop := kd k = (1, n) ∧ k ∈ R
def NA (R : List Nat) (k n : Nat) : Prop := kd k = (2, n) ∧ k ∈ R
theorem cell_OB {dA : Nat → ClassId} {ad : Nat → Nat} {R : List Nat} {F : HF} {k c : Nat} (h : OB R k c) : cellE dA ad F k = .inr (c, fldL ad F c k) := by
  unfold cellE; rw [h.1]; rfl
theorem cell_IA {dA : Nat → ClassId} {ad : Nat → Nat} {R : List Nat} {F : HF} {k n : Nat} (h : IA R k n) : cellE dA ad F k = .inl (dA 0, n, .inl (F k)) := by
  unfold cellE; rw [h.1]; rfl
theorem cell_CA {dA : Nat → ClassId} {ad : Nat → Nat} {R : List Nat} {F : HF} {k n : Nat} (h : CA R k n) : cellE dA ad F k = .inl (dA 1, n, .inl (F k)) := by
  unfold cellE; rw [h.1]; rfl
theorem cell_NA {dA : Nat → ClassId} {ad : Nat → Nat} {R : List Nat} {F : HF} {k n : Nat} (h : NA R k n) : cellE dA ad F k = .inl (dA 2, n, .inr (.inr (.inr (.inr (fun j => some (ad (F k j).toNatClampNeg)))))) := by
  unfold cellE; rw [h.1]; rfl
theorem fldL_getI {ad : Nat → Nat} {F : HF} {c k j : Nat} (hj : j < nf c) (h : isr c j = false) : (fldL ad F c k)[j]? = some (.int (F k j)) := by
  simp [fldL, List.getElem?_map, List.getElem?_range hj, h]
theorem fldL_getR {ad : Nat → Nat} {F : HF} {c k j : Nat} (hj : j < nf c) (h : isr c j = true) : (fldL ad F c k)[j]? = some (.ref (ad (rfc c k j))) := by
  simp [fldL, List.getElem?_map, List.getElem?_range hj, h]
theorem fldL_set {ad : Nat → Nat} {F : HF} {c k j : Nat} {v : Int32} (hj : j < nf c) (h : isr c j = false) : fldL ad (hup F k j v) c k = (fldL ad F c k).set j (.int v) := by
  apply List.ext_getElem?
  intro i
  rw [List.getElem?_set]
  by_cases hi : j = i
  · subst hi
    have hlt : j < (fldL ad F c k).length := by simpa [fldL] using hj
    simp [hlt, fldL_getI hj h, hup_s, upd]
  · simp only [hi, if_false]
    by_cases hl : i < nf c
    · have hne : ¬ i = j := fun e => hi e.symm
      by_cases hr : isr c i = true
      · rw [fldL_getR hl hr, fldL_getR hl hr]
      · have hr' : isr c i = false := by simpa using hr
        rw [fldL_getI hl hr', fldL_getI hl hr', hup_s]
        simp [upd, hne]
    · have h1 : (fldL ad (hup F k j v) c k)[i]? = none := by simp [fldL]; omega
      have h2 : (fldL ad F c k)[i]? = none := by simp [fldL]; omega
      rw [h1, h2]
/-! ===== the tables' words, all of them, for every method ===== -/
def WB : List Cond := lw_tbl.filter goodWord
theorem WB_good : GoodIn WB WB := fun w h => ⟨h, good_of_word (List.mem_filter.mp h).2⟩
theorem inWB {w : Cond} (i : Nat) (h : lw_tbl[i]? = some w) (hg : goodWord w = true) : w ∈ WB := List.mem_filter.mpr ⟨List.mem_of_getElem? h, hg⟩
theorem WB_tbl {w : Cond} (h : w ∈ WB) : w ∈ lw_tbl := (List.mem_filter.mp h).1
theorem WB_one {w : Cond} (h : w ∈ WB) : w ∈ WB ∧ ((w.onTables && w.keeps) = true ∨ ∃ ty, w = .arrayClass ty) := WB_good w h
theorem gV {own C : String} {i : Nat} {y : MethodName} {b : ByteArray} {n : Nat} {r : Option FieldType} (h1 : Cond.methodLink own i y ∈ WB) (h2 : Cond.instanceMethod y ∈ WB) (h3 : Cond.selects C y y ∈ WB) (h4 : Cond.initialized C ∈ WB) (h5 : Cond.code y b n r ∈ WB) : GoodIn WB (wsV own i C y (Cond.code y b n r :: WB)) := by
  intro w hw
  unfold wsV at hw
  rcases List.mem_append.mp hw with h | h
  · simp only [List.mem_cons, List.not_mem_nil, or_false] at h
    rcases h with rfl | rfl | rfl | rfl
    · exact WB_one h1
    · exact WB_one h2
    · exact WB_one h3
    · exact WB_one h4
  · rcases List.mem_cons.mp h with rfl | h
    · exact WB_one h5
    · exact WB_one h
theorem gS {own : String} {i : Nat} {y : MethodName} {b : ByteArray} {n : Nat} {r : Option FieldType} (h1 : Cond.methodLink own i y ∈ WB) (h2 : Cond.static y ∈ WB) (h4 : Cond.initialized own ∈ WB) (h5 : Cond.code y b n r ∈ WB) : GoodIn WB (wsS own i y (Cond.code y b n r :: WB)) := by
  intro w hw
  unfold wsS at hw
  rcases List.mem_append.mp hw with h | h
  · simp only [List.mem_cons, List.not_mem_nil, or_false] at h
    rcases h with rfl | rfl | rfl
    · exact WB_one h1
    · exact WB_one h2
    · exact WB_one h4
  · rcases List.mem_cons.mp h with rfl | h
    · exact WB_one h5
    · exact WB_one h
theorem gI {y : MethodName} {b : ByteArray} {n : Nat} {r : Option FieldType} (h5 : Cond.code y b n r ∈ WB) : GoodIn WB (Cond.code y b n r :: WB) := by
  intro w hw
  rcases List.mem_cons.mp hw with rfl | h
  · exact WB_one h5
  · exact WB_one h
/-- a class of the world: its number, its words, its fields' types -/
def CLS (ci : Nat) (C : String) (T : u_T) (N : Nat) (ty : Nat → FieldType) : Prop := clsL[ci]? = some (C, T, N) ∧ (∀ w ∈ u_ws C T N, w ∈ WB) ∧ nf ci = N ∧ (∀ k, k < N → parseFieldDescriptor (T k).2.2.1 = some (ty k)) ∧ (∀ a, a < N → ∀ b, b < N → a ≠ b → (T a).2.1 ≠ (T b).2.1)
end
section
/-! ===== the judgement: at a pc, with locals and stack known, the heap as the numbers say ===== -/
section JJ
variable {p : Program} {l : Launch} {e : Env} {Rm : Room} {s : State} {m : MethodId} {args : Array Value} {below : List Frame} {meth : Method} {c : Code} {nL : Nat} {D : va_G} {dA : Nat → ClassId} {ad : Nat → Nat} {R : List Nat} {A : Nat → Prop} {Q : State → Prop} {F : HF} {pc : Nat} {lv : List (Nat × Value)} {st : List Value} {cc : ByteArray} {own : String}
def J (p : Program) (l : Launch) (e : Env) (Rm : Room) (s : State) (m : MethodId) (args : Array Value) (below : List Frame) (meth : Method) (c : Code) (nL : Nat) (D : va_G) (dA : Nat → ClassId) (ad : Nat → Nat) (R : List Nat) (A : Nat → Prop) (Q : State → Prop) (F : HF) (pc : Nat) (lv : List (Nat × Value)) (st : List Value) : Prop :=
  ∀ (H : Heap) (locs : List Loc) (ls : Array Slot), va_P D clsL (wl dA ad R F) H → va_D A (wl dA ad R F) → va_S A s.heap H locs → lv_has ls nL lv → W p l e Rm s m args below meth c H locs 0 0 Q (F0 m pc ls st)
def Cx (p : Program) (s : State) (m : MethodId) (args : Array Value) (meth : Method) (c : Code) (cc : ByteArray) (nL : Nat) (own : String) (D : va_G) (dA : Nat → ClassId) : Prop := p.tables.exec = Jvm.exec ∧ c.code = cc ∧ c.maxLocals = nL ∧ s.vm.findClass own = some m.cls ∧ (∀ w ∈ WB, w.before args s = true) ∧ va_K D clsL (tysL dA) s ∧ meth.locks = false
theorem r_iconst (X : Cx p s m args meth c cc nL own D dA) {n : Int} {v : Int32} (hdg : decode cc pc = .ok (.iconst n, 1)) (hv : Int32.ofInt n = v) (k : J p l e Rm s m args below meth c nL D dA ad R A Q F (pc + 1) lv (.int v :: st)) : J p l e Rm s m args below meth c nL D dA ad R A Q F pc lv (st) := fun H locs ls hP hD hS hl => lv_iconst X.1 X.2.1 hdg hv (k H locs ls hP hD hS hl)
theorem r_bipush (X : Cx p s m args meth c cc nL own D dA) {n : Int} {v : Int32} (hdg : decode cc pc = .ok (.bipush n, 2)) (hv : (Int8.ofInt n).toInt32 = v) (k : J p l e Rm s m args below meth c nL D dA ad R A Q F (pc + 2) lv (.int v :: st)) : J p l e Rm s m args below meth c nL D dA ad R A Q F pc lv (st) := fun H locs ls hP hD hS hl => lv_bipush X.1 X.2.1 hdg hv (k H locs ls hP hD hS hl)
theorem r_sipush (X : Cx p s m args meth c cc nL own D dA) {n : Int} {v : Int32} (hdg : decode cc pc = .ok (.sipush n, 3)) (hv : (Int16.ofInt n).toInt32 = v) (k : J p l e Rm s m args below meth c nL D dA ad R A Q F (pc + 3) lv (.int v :: st)) : J p l e Rm s m args below meth c nL D dA ad R A Q F pc lv (st) := fun H locs ls hP hD hS hl => lv_sipush X.1 X.2.1 hdg hv (k H locs ls hP hD hS hl)
theorem r_lconst (X : Cx p s m args meth c cc nL own D dA) {n : Fin 2} {v : Int64} (hdg : decode cc pc = .ok (.lconst n, 1)) (hv : Int64.ofNat (n : Nat) = v) (k : J p l e Rm s m args below meth c nL D dA ad R A Q F (pc + 1) lv (.long v :: st)) : J p l e Rm s m args below meth c nL D dA ad R A Q F pc lv (st) := fun H locs ls hP hD hS hl => lv_lconst X.1 X.2.1 hdg hv (k H locs ls hP hD hS hl)
theorem r_iload (X : Cx p s m args meth c cc nL own D dA) {i : Nat} {x : Int32} (q : Nat) (hdg : decode cc pc = .ok (.iload i, 2)) (hq : lv[q]? = some (i, .int x)) (k : J p l e Rm s m args below meth c nL D dA ad R A Q F (pc + 2) lv (.int x :: st)) : J p l e Rm s m args below meth c nL D dA ad R A Q F pc lv (st) := fun H locs ls hP hD hS hl => lv_iload X.1 X.2.1 hdg (lv_at hl q hq) (k H locs ls hP hD hS hl)
theorem r_iload_n (X : Cx p s m args meth c cc nL own D dA) {w : Fin 4} {i : Nat} {x : Int32} (q : Nat) (hdg : decode cc pc = .ok (.iload_n w, 1)) (hi : (w : Nat) = i) (hq : lv[q]? = some (i, .int x)) (k : J p l e Rm s m args below meth c nL D dA ad R A Q F (pc + 1) lv (.int x :: st)) : J p l e Rm s m args below meth c nL D dA ad R A Q F pc lv (st) := fun H locs ls hP hD hS hl => lv_iload_n X.1 X.2.1 hdg hi (lv_at hl q hq) (k H locs ls hP hD hS hl)
theorem r_aload (X : Cx p s m args meth c cc nL own D dA) {i : Nat} {x : Nat} (q : Nat) (hdg : decode cc pc = .ok (.aload i, 2)) (hq : lv[q]? = some (i, .ref x)) (k : J p l e Rm s m args below meth c nL D dA ad R A Q F (pc + 2) lv (.ref x :: st)) : J p l e Rm s m args below meth c nL D dA ad R A Q F pc lv (st) := fun H locs ls hP hD hS hl => lv_aload X.1 X.2.1 hdg (lv_at hl q hq) (k H locs ls hP hD hS hl)
theorem r_aload_n (X : Cx p s m args meth c cc nL own D dA) {w : Fin 4} {i : Nat} {x : Nat} (q : Nat) (hdg : decode cc pc = .ok (.aload_n w, 1)) (hi : (w : Nat) = i) (hq : lv[q]? = some (i, .ref x)) (k : J p l e Rm s m args below meth c nL D dA ad R A Q F (pc + 1) lv (.ref x :: st)) : J p l e Rm s m args below meth c nL D dA ad R A Q F pc lv (st) := fun H locs ls hP hD hS hl => lv_aload_n X.1 X.2.1 hdg hi (lv_at hl q hq) (k H locs ls hP hD hS hl)
theorem r_lload (X : Cx p s m args meth c cc nL own D dA) {i : Nat} {x : Int64} (q : Nat) (hdg : decode cc pc = .ok (.lload i, 2)) (hq : lv[q]? = some (i, .long x)) (k : J p l e Rm s m args below meth c nL D dA ad R A Q F (pc + 2) lv (.long x :: st)) : J p l e Rm s m args below meth c nL D dA ad R A Q F pc lv (st) := fun H locs ls hP hD hS hl => lv_lload X.1 X.2.1 hdg (lv_at hl q hq) (k H locs ls hP hD hS hl)
theorem r_lload_n (X : Cx p s m args meth c cc nL own D dA) {w : Fin 4} {i : Nat} {x : Int64} (q : Nat) (hdg : decode cc pc = .ok (.lload_n w, 1)) (hi : (w : Nat) = i) (hq : lv[q]? = some (i, .long x)) (k : J p l e Rm s m args below meth c nL D dA ad R A Q F (pc + 1) lv (.long x :: st)) : J p l e Rm s m args below meth c nL D dA ad R A Q F pc lv (st) := fun H locs ls hP hD hS hl => lv_lload_n X.1 X.2.1 hdg hi (lv_at hl q hq) (k H locs ls hP hD hS hl)
theorem r_istore (X : Cx p s m args meth c cc nL own D dA) {i : Nat} {x : Int32} (lv' : List (Nat × Value)) (hdg : decode cc pc = .ok (.istore i, 2)) (hn : i < nL) (hl' : (i, Value.int x) :: lv.filter (fun q => !(q.1 == i) && !(q.1 + 1 == i && q.2.category == 2)) = lv') (k : J p l e Rm s m args below meth c nL D dA ad R A Q F (pc + 2) lv' st) : J p l e Rm s m args below meth c nL D dA ad R A Q F pc lv (.int x :: st) := fun H locs ls hP hD hS hl => lv_istore X.1 X.2.1 hdg hl hn hl' (fun ls2 hl2 => k H locs ls2 hP hD hS hl2)
theorem r_istore_n (X : Cx p s m args meth c cc nL own D dA) {w : Fin 4} {i : Nat} {x : Int32} (lv' : List (Nat × Value)) (hdg : decode cc pc = .ok (.istore_n w, 1)) (hi : (w : Nat) = i) (hn : i < nL) (hl' : (i, Value.int x) :: lv.filter (fun q => !(q.1 == i) && !(q.1 + 1 == i && q.2.category == 2)) = lv') (k : J p l e Rm s m args below meth c nL D dA ad R A Q F (pc + 1) lv' st) : J p l e Rm s m args below meth c nL D dA ad R A Q F pc lv (.int x :: st) := fun H locs ls hP hD hS hl => lv_istore_n X.1 X.2.1 hdg hi hl hn hl' (fun ls2 hl2 => k H locs ls2 hP hD hS hl2)
theorem r_astore (X : Cx p s m args meth c cc nL own D dA) {i : Nat} {x : Nat} (lv' : List (Nat × Value)) (hdg : decode cc pc = .ok (.astore i, 2)) (hn : i < nL) (hl' : (i, Value.ref x) :: lv.filter (fun q => !(q.1 == i) && !(q.1 + 1 == i && q.2.category == 2)) = lv') (k : J p l e Rm s m args below meth c nL D dA ad R A Q F (pc + 2) lv' st) : J p l e Rm s m args below meth c nL D dA ad R A Q F pc lv (.ref x :: st) := fun H locs ls hP hD hS hl => lv_astore X.1 X.2.1 hdg hl hn hl' (fun ls2 hl2 => k H locs ls2 hP hD hS hl2)
theorem r_astore_n (X : Cx p s m args meth c cc nL own D dA) {w : Fin 4} {i : Nat} {x : Nat} (lv' : List (Nat × Value)) (hdg : decode cc pc = .ok (.astore_n w, 1)) (hi : (w : Nat) = i) (hn : i < nL) (hl' : (i, Value.ref x) :: lv.filter (fun q => !(q.1 == i) && !(q.1 + 1 == i && q.2.category == 2)) = lv') (k : J p l e Rm s m args below meth c nL D dA ad R A Q F (pc + 1) lv' st) : J p l e Rm s m args below meth c nL D dA ad R A Q F pc lv (.ref x :: st) := fun H locs ls hP hD hS hl => lv_astore_n X.1 X.2.1 hdg hi hl hn hl' (fun ls2 hl2 => k H locs ls2 hP hD hS hl2)
theorem r_lstore (X : Cx p s m args meth c cc nL own D dA) {i : Nat} {x : Int64} (lv' : List (Nat × Value)) (hdg : decode cc pc = .ok (.lstore i, 2)) (hn : i + 1 < nL) (hl' : (i, Value.long x) :: lv.filter (fun q => !(q.1 == i) && (!(q.1 == i + 1) && !(q.1 + 1 == i && q.2.category == 2))) = lv') (k : J p l e Rm s m args below meth c nL D dA ad R A Q F (pc + 2) lv' st) : J p l e Rm s m args below meth c nL D dA ad R A Q F pc lv (.long x :: st) := fun H locs ls hP hD hS hl => lv_lstore X.1 X.2.1 hdg hl hn hl' (fun ls2 hl2 => k H locs ls2 hP hD hS hl2)
theorem r_lstore_n (X : Cx p s m args meth c cc nL own D dA) {w : Fin 4} {i : Nat} {x : Int64} (lv' : List (Nat × Value)) (hdg : decode cc pc = .ok (.lstore_n w, 1)) (hi : (w : Nat) = i) (hn : i + 1 < nL) (hl' : (i, Value.long x) :: lv.filter (fun q => !(q.1 == i) && (!(q.1 == i + 1) && !(q.1 + 1 == i && q.2.category == 2))) = lv') (k : J p l e Rm s m args below meth c nL D dA ad R A Q F (pc + 1) lv' st) : J p l e Rm s m args below meth c nL D dA ad R A Q F pc lv (.long x :: st) := fun H locs ls hP hD hS hl => lv_lstore_n X.1 X.2.1 hdg hi hl hn hl' (fun ls2 hl2 => k H locs ls2 hP hD hS hl2)
theorem r_iinc (X : Cx p s m args meth c cc nL own D dA) {i : Nat} {n : Int} {x v : Int32} (q : Nat) (lv' : List (Nat × Value)) (hdg : decode cc pc = .ok (.iinc i n, 3)) (hq : lv[q]? = some (i, .int x)) (hv : x + Int32.ofInt n = v) (hn : i < nL) (hl' : (i, Value.int v) :: lv.filter (fun q => !(q.1 == i) && !(q.1 + 1 == i && q.2.category == 2)) = lv') (k : J p l e Rm s m args below meth c nL D dA ad R A Q F (pc + 3) lv' st) : J p l e Rm s m args below meth c nL D dA ad R A Q F pc lv st := fun H locs ls hP hD hS hl => lv_iinc X.1 X.2.1 hdg hl hq hv hn hl' (fun ls2 hl2 => k H locs ls2 hP hD hS hl2)
theorem r_dup (X : Cx p s m args meth c cc nL own D dA) {va : Value} (hdg : decode cc pc = .ok (.dup, 1)) (hva : va.category = 1) (k : J p l e Rm s m args below meth c nL D dA ad R A Q F (pc + 1) lv (va :: va :: st)) : J p l e Rm s m args below meth c nL D dA ad R A Q F pc lv (va :: st) := fun H locs ls hP hD hS hl => lv_dup X.1 X.2.1 hdg hva (k H locs ls hP hD hS hl)
theorem r_pop (X : Cx p s m args meth c cc nL own D dA) {va : Value} (hdg : decode cc pc = .ok (.pop, 1)) (hva : va.category = 1) (k : J p l e Rm s m args below meth c nL D dA ad R A Q F (pc + 1) lv (st)) : J p l e Rm s m args below meth c nL D dA ad R A Q F pc lv (va :: st) := fun H locs ls hP hD hS hl => lv_pop X.1 X.2.1 hdg hva (k H locs ls hP hD hS hl)
theorem r_iadd (X : Cx p s m args meth c cc nL own D dA) {x y : Int32} (hdg : decode cc pc = .ok (.iadd, 1))  (k : J p l e Rm s m args below meth c nL D dA ad R A Q F (pc + 1) lv (.int (x + y) :: st)) : J p l e Rm s m args below meth c nL D dA ad R A Q F pc lv (.int y :: .int x :: st) := fun H locs ls hP hD hS hl => lv_iadd X.1 X.2.1 hdg  (k H locs ls hP hD hS hl)
theorem r_isub (X : Cx p s m args meth c cc nL own D dA) {x y : Int32} (hdg : decode cc pc = .ok (.isub, 1))  (k : J p l e Rm s m args below meth c nL D dA ad R A Q F (pc + 1) lv (.int (x - y) :: st)) : J p l e Rm s m args below meth c nL D dA ad R A Q F pc lv (.int y :: .int x :: st) := fun H locs ls hP hD hS hl => lv_isub X.1 X.2.1 hdg  (k H locs ls hP hD hS hl)
theorem r_imul (X : Cx p s m args meth c cc nL own D dA) {x y : Int32} (hdg : decode cc pc = .ok (.imul, 1))  (k : J p l e Rm s m args below meth c nL D dA ad R A Q F (pc + 1) lv (.int (x * y) :: st)) : J p l e Rm s m args below meth c nL D dA ad R A Q F pc lv (.int y :: .int x :: st) := fun H locs ls hP hD hS hl => lv_imul X.1 X.2.1 hdg  (k H locs ls hP hD hS hl)
theorem r_ishl (X : Cx p s m args meth c cc nL own D dA) {x y : Int32} (hdg : decode cc pc = .ok (.ishl, 1))  (k : J p l e Rm s m args below meth c nL D dA ad R A Q F (pc + 1) lv (.int (x <<< (y &&& 31)) :: st)) : J p l e Rm s m args below meth c nL D dA ad R A Q F pc lv (.int y :: .int x :: st) := fun H locs ls hP hD hS hl => lv_ishl X.1 X.2.1 hdg  (k H locs ls hP hD hS hl)
theorem r_ishr (X : Cx p s m args meth c cc nL own D dA) {x y : Int32} (hdg : decode cc pc = .ok (.ishr, 1))  (k : J p l e Rm s m args below meth c nL D dA ad R A Q F (pc + 1) lv (.int (x >>> (y &&& 31)) :: st)) : J p l e Rm s m args below meth c nL D dA ad R A Q F pc lv (.int y :: .int x :: st) := fun H locs ls hP hD hS hl => lv_ishr X.1 X.2.1 hdg  (k H locs ls hP hD hS hl)
theorem r_iand (X : Cx p s m args meth c cc nL own D dA) {x y : Int32} (hdg : decode cc pc = .ok (.iand, 1))  (k : J p l e Rm s m args below meth c nL D dA ad R A Q F (pc + 1) lv (.int (x &&& y) :: st)) : J p l e Rm s m args below meth c nL D dA ad R A Q F pc lv (.int y :: .int x :: st) := fun H locs ls hP hD hS hl => lv_iand X.1 X.2.1 hdg  (k H locs ls hP hD hS hl)
theorem r_ior (X : Cx p s m args meth c cc nL own D dA) {x y : Int32} (hdg : decode cc pc = .ok (.ior, 1))  (k : J p l e Rm s m args below meth c nL D dA ad R A Q F (pc + 1) lv (.int (x ||| y) :: st)) : J p l e Rm s m args below meth c nL D dA ad R A Q F pc lv (.int y :: .int x :: st) := fun H locs ls hP hD hS hl => lv_ior X.1 X.2.1 hdg  (k H locs ls hP hD hS hl)
theorem r_idiv (X : Cx p s m args meth c cc nL own D dA) {x y : Int32} (hdg : decode cc pc = .ok (.idiv, 1)) (hne : ¬ y = 0) (k : J p l e Rm s m args below meth c nL D dA ad R A Q F (pc + 1) lv (.int (x / y) :: st)) : J p l e Rm s m args below meth c nL D dA ad R A Q F pc lv (.int y :: .int x :: st) := fun H locs ls hP hD hS hl => lv_idiv X.1 X.2.1 hdg hne (k H locs ls hP hD hS hl)
theorem r_irem (X : Cx p s m args meth c cc nL own D dA) {x y : Int32} (hdg : decode cc pc = .ok (.irem, 1)) (hne : ¬ y = 0) (k : J p l e Rm s m args below meth c nL D dA ad R A Q F (pc + 1) lv (.int (x - x / y * y) :: st)) : J p l e Rm s m args below meth c nL D dA ad R A Q F pc lv (.int y :: .int x :: st) := fun H locs ls hP hD hS hl => lv_irem X.1 X.2.1 hdg hne (k H locs ls hP hD hS hl)
theorem r_ladd (X : Cx p s m args meth c cc nL own D dA) {x y : Int64} (hdg : decode cc pc = .ok (.ladd, 1))  (k : J p l e Rm s m args below meth c nL D dA ad R A Q F (pc + 1) lv (.long (x + y) :: st)) : J p l e Rm s m args below meth c nL D dA ad R A Q F pc lv (.long y :: .long x :: st) := fun H locs ls hP hD hS hl => lv_ladd X.1 X.2.1 hdg  (k H locs ls hP hD hS hl)
theorem r_lmul (X : Cx p s m args meth c cc nL own D dA) {x y : Int64} (hdg : decode cc pc = .ok (.lmul, 1))  (k : J p l e Rm s m args below meth c nL D dA ad R A Q F (pc + 1) lv (.long (x * y) :: st)) : J p l e Rm s m args below meth c nL D dA ad R A Q F pc lv (.long y :: .long x :: st) := fun H locs ls hP hD hS hl => lv_lmul X.1 X.2.1 hdg  (k H locs ls hP hD hS hl)
theorem r_ldiv (X : Cx p s m args meth c cc nL own D dA) {x y : Int64} (hdg : decode cc pc = .ok (.ldiv, 1)) (hne : ¬ y = 0) (k : J p l e Rm s m args below meth c nL D dA ad R A Q F (pc + 1) lv (.long (x / y) :: st)) : J p l e Rm s m args below meth c nL D dA ad R A Q F pc lv (.long y :: .long x :: st) := fun H locs ls hP hD hS hl => lv_ldiv X.1 X.2.1 hdg hne (k H locs ls hP hD hS hl)
theorem r_lrem (X : Cx p s m args meth c cc nL own D dA) {x y : Int64} (hdg : decode cc pc = .ok (.lrem, 1)) (hne : ¬ y = 0) (k : J p l e Rm s m args below meth c nL D dA ad R A Q F (pc + 1) lv (.long (x - x / y * y) :: st)) : J p l e Rm s m args below meth c nL D dA ad R A Q F pc lv (.long y :: .long x :: st) := fun H locs ls hP hD hS hl => lv_lrem X.1 X.2.1 hdg hne (k H locs ls hP hD hS hl)
theorem r_i2l (X : Cx p s m args meth c cc nL own D dA) {x : Int32} {v : Int64} (hdg : decode cc pc = .ok (.i2l, 1)) (hv : x.toInt64 = v) (k : J p l e Rm s m args below meth c nL D dA ad R A Q F (pc + 1) lv (.long v :: st)) : J p l e Rm s m args below meth c nL D dA ad R A Q F pc lv (.int x :: st) := fun H locs ls hP hD hS hl => lv_i2l X.1 X.2.1 hdg hv (k H locs ls hP hD hS hl)
theorem r_l2i (X : Cx p s m args meth c cc nL own D dA) {x : Int64} {v : Int32} (hdg : decode cc pc = .ok (.l2i, 1)) (hv : x.toInt32 = v) (k : J p l e Rm s m args below meth c nL D dA ad R A Q F (pc + 1) lv (.int v :: st)) : J p l e Rm s m args below meth c nL D dA ad R A Q F pc lv (.long x :: st) := fun H locs ls hP hD hS hl => lv_l2i X.1 X.2.1 hdg hv (k H locs ls hP hD hS hl)
theorem r_i2c (X : Cx p s m args meth c cc nL own D dA) {x : Int32} {v : Int32} (hdg : decode cc pc = .ok (.i2c, 1)) (hv : (x.toUInt32 % 65536).toInt32 = v) (k : J p l e Rm s m args below meth c nL D dA ad R A Q F (pc + 1) lv (.int v :: st)) : J p l e Rm s m args below meth c nL D dA ad R A Q F pc lv (.int x :: st) := fun H locs ls hP hD hS hl => lv_i2c X.1 X.2.1 hdg hv (k H locs ls hP hD hS hl)
theorem r_if_eq (X : Cx p s m args meth c cc nL own D dA) {x : Int32} {off : Int} {tgt : Nat} (hdg : decode cc pc = .ok (.ifCond .eq off, 3)) (ht : (pc : Int) + off = (tgt : Int)) (kt : x = 0 → J p l e Rm s m args below meth c nL D dA ad R A Q F tgt lv st) (kf : ¬ x = 0 → J p l e Rm s m args below meth c nL D dA ad R A Q F (pc + 3) lv st) : J p l e Rm s m args below meth c nL D dA ad R A Q F pc lv (.int x :: st) := fun H locs ls hP hD hS hl => lv_if_eq X.1 X.2.1 hdg ht (fun h => kt h H locs ls hP hD hS hl) (fun h => kf h H locs ls hP hD hS hl)
theorem r_icmp_eq (X : Cx p s m args meth c cc nL own D dA) {x y : Int32} {off : Int} {tgt : Nat} (hdg : decode cc pc = .ok (.if_icmp .eq off, 3)) (ht : (pc : Int) + off = (tgt : Int)) (kt : x = y → J p l e Rm s m args below meth c nL D dA ad R A Q F tgt lv st) (kf : ¬ x = y → J p l e Rm s m args below meth c nL D dA ad R A Q F (pc + 3) lv st) : J p l e Rm s m args below meth c nL D dA ad R A Q F pc lv (.int y :: .int x :: st) := fun H locs ls hP hD hS hl => lv_icmp_eq X.1 X.2.1 hdg ht (fun h => kt h H locs ls hP hD hS hl) (fun h => kf h H locs ls hP hD hS hl)
theorem r_if_ne (X : Cx p s m args meth c cc nL own D dA) {x : Int32} {off : Int} {tgt : Nat} (hdg : decode cc pc = .ok (.ifCond .ne off, 3)) (ht : (pc : Int) + off = (tgt : Int)) (kt : ¬ x = 0 → J p l e Rm s m args below meth c nL D dA ad R A Q F tgt lv st) (kf : x = 0 → J p l e Rm s m args below meth c nL D dA ad R A Q F (pc + 3) lv st) : J p l e Rm s m args below meth c nL D dA ad R A Q F pc lv (.int x :: st) := fun H locs ls hP hD hS hl => lv_if_ne X.1 X.2.1 hdg ht (fun h => kt h H locs ls hP hD hS hl) (fun h => kf h H locs ls hP hD hS hl)
theorem r_icmp_ne (X : Cx p s m args meth c cc nL own D dA) {x y : Int32} {off : Int} {tgt : Nat} (hdg : decode cc pc = .ok (.if_icmp .ne off, 3)) (ht : (pc : Int) + off = (tgt : Int)) (kt : ¬ x = y → J p l e Rm s m args below meth c nL D dA ad R A Q F tgt lv st) (kf : x = y → J p l e Rm s m args below meth c nL D dA ad R A Q F (pc + 3) lv st) : J p l e Rm s m args below meth c nL D dA ad R A Q F pc lv (.int y :: .int x :: st) := fun H locs ls hP hD hS hl => lv_icmp_ne X.1 X.2.1 hdg ht (fun h => kt h H locs ls hP hD hS hl) (fun h => kf h H locs ls hP hD hS hl)
theorem r_if_lt (X : Cx p s m args meth c cc nL own D dA) {x : Int32} {off : Int} {tgt : Nat} (hdg : decode cc pc = .ok (.ifCond .lt off, 3)) (ht : (pc : Int) + off = (tgt : Int)) (kt : x < 0 → J p l e Rm s m args below meth c nL D dA ad R A Q F tgt lv st) (kf : ¬ x < 0 → J p l e Rm s m args below meth c nL D dA ad R A Q F (pc + 3) lv st) : J p l e Rm s m args below meth c nL D dA ad R A Q F pc lv (.int x :: st) := fun H locs ls hP hD hS hl => lv_if_lt X.1 X.2.1 hdg ht (fun h => kt h H locs ls hP hD hS hl) (fun h => kf h H locs ls hP hD hS hl)
theorem r_icmp_lt (X : Cx p s m args meth c cc nL own D dA) {x y : Int32} {off : Int} {tgt : Nat} (hdg : decode cc pc = .ok (.if_icmp .lt off, 3)) (ht : (pc : Int) + off = (tgt : Int)) (kt : x < y → J p l e Rm s m args below meth c nL D dA ad R A Q F tgt lv st) (kf : ¬ x < y → J p l e Rm s m args below meth c nL D dA ad R A Q F (pc + 3) lv st) : J p l e Rm s m args below meth c nL D dA ad R A Q F pc lv (.int y :: .int x :: st) := fun H locs ls hP hD hS hl => lv_icmp_lt X.1 X.2.1 hdg ht (fun h => kt h H locs ls hP hD hS hl) (fun h => kf h H locs ls hP hD hS hl)
theorem r_if_ge (X : Cx p s m args meth c cc nL own D dA) {x : Int32} {off : Int} {tgt : Nat} (hdg : decode cc pc = .ok (.ifCond .ge off, 3)) (ht : (pc : Int) + off = (tgt : Int)) (kt : 0 ≤ x → J p l e Rm s m args below meth c nL D dA ad R A Q F tgt lv st) (kf : ¬ 0 ≤ x → J p l e Rm s m args below meth c nL D dA ad R A Q F (pc + 3) lv st) : J p l e Rm s m args below meth c nL D dA ad R A Q F pc lv (.int x :: st) := fun H locs ls hP hD hS hl => lv_if_ge X.1 X.2.1 hdg ht (fun h => kt h H locs ls hP hD hS hl) (fun h => kf h H locs ls hP hD hS hl)
theorem r_icmp_ge (X : Cx p s m args meth c cc nL own D dA) {x y : Int32} {off : Int} {tgt : Nat} (hdg : decode cc pc = .ok (.if_icmp .ge off, 3)) (ht : (pc : Int) + off = (tgt : Int)) (kt : y ≤ x → J p l e Rm s m args below meth c nL D dA ad R A Q F tgt lv st) (kf : ¬ y ≤ x → J p l e Rm s m args below meth c nL D dA ad R A Q F (pc + 3) lv st) : J p l e Rm s m args below meth c nL D dA ad R A Q F pc lv (.int y :: .int x :: st) := fun H locs ls hP hD hS hl => lv_icmp_ge X.1 X.2.1 hdg ht (fun h => kt h H locs ls hP hD hS hl) (fun h => kf h H locs ls hP hD hS hl)
theorem r_if_gt (X : Cx p s m args meth c cc nL own D dA) {x : Int32} {off : Int} {tgt : Nat} (hdg : decode cc pc = .ok (.ifCond .gt off, 3)) (ht : (pc : Int) + off = (tgt : Int)) (kt : 0 < x → J p l e Rm s m args below meth c nL D dA ad R A Q F tgt lv st) (kf : ¬ 0 < x → J p l e Rm s m args below meth c nL D dA ad R A Q F (pc + 3) lv st) : J p l e Rm s m args below meth c nL D dA ad R A Q F pc lv (.int x :: st) := fun H locs ls hP hD hS hl => lv_if_gt X.1 X.2.1 hdg ht (fun h => kt h H locs ls hP hD hS hl) (fun h => kf h H locs ls hP hD hS hl)
theorem r_icmp_gt (X : Cx p s m args meth c cc nL own D dA) {x y : Int32} {off : Int} {tgt : Nat} (hdg : decode cc pc = .ok (.if_icmp .gt off, 3)) (ht : (pc : Int) + off = (tgt : Int)) (kt : y < x → J p l e Rm s m args below meth c nL D dA ad R A Q F tgt lv st) (kf : ¬ y < x → J p l e Rm s m args below meth c nL D dA ad R A Q F (pc + 3) lv st) : J p l e Rm s m args below meth c nL D dA ad R A Q F pc lv (.int y :: .int x :: st) := fun H locs ls hP hD hS hl => lv_icmp_gt X.1 X.2.1 hdg ht (fun h => kt h H locs ls hP hD hS hl) (fun h => kf h H locs ls hP hD hS hl)
theorem r_if_le (X : Cx p s m args meth c cc nL own D dA) {x : Int32} {off : Int} {tgt : Nat} (hdg : decode cc pc = .ok (.ifCond .le off, 3)) (ht : (pc : Int) + off = (tgt : Int)) (kt : x ≤ 0 → J p l e Rm s m args below meth c nL D dA ad R A Q F tgt lv st) (kf : ¬ x ≤ 0 → J p l e Rm s m args below meth c nL D dA ad R A Q F (pc + 3) lv st) : J p l e Rm s m args below meth c nL D dA ad R A Q F pc lv (.int x :: st) := fun H locs ls hP hD hS hl => lv_if_le X.1 X.2.1 hdg ht (fun h => kt h H locs ls hP hD hS hl) (fun h => kf h H locs ls hP hD hS hl)
theorem r_icmp_le (X : Cx p s m args meth c cc nL own D dA) {x y : Int32} {off : Int} {tgt : Nat} (hdg : decode cc pc = .ok (.if_icmp .le off, 3)) (ht : (pc : Int) + off = (tgt : Int)) (kt : x ≤ y → J p l e Rm s m args below meth c nL D dA ad R A Q F tgt lv st) (kf : ¬ x ≤ y → J p l e Rm s m args below meth c nL D dA ad R A Q F (pc + 3) lv st) : J p l e Rm s m args below meth c nL D dA ad R A Q F pc lv (.int y :: .int x :: st) := fun H locs ls hP hD hS hl => lv_icmp_le X.1 X.2.1 hdg ht (fun h => kt h H locs ls hP hD hS hl) (fun h => kf h H locs ls hP hD hS hl)
theorem r_goto (X : Cx p s m args meth c cc nL own D dA) {off : Int} {tgt : Nat} (hdg : decode cc pc = .ok (.goto off, 3)) (ht : (pc : Int) + off = (tgt : Int)) (k : J p l e Rm s m args below meth c nL D dA ad R A Q F tgt lv st) : J p l e Rm s m args below meth c nL D dA ad R A Q F pc lv st := fun H locs ls hP hD hS hl => lv_goto X.1 X.2.1 hdg ht (k H locs ls hP hD hS hl)
theorem r_dup2 (X : Cx p s m args meth c cc nL own D dA) {va vb : Value} (hdg : decode cc pc = .ok (.dup2, 1)) (hva : va.category = 1) (hvb : vb.category = 1) (k : J p l e Rm s m args below meth c nL D dA ad R A Q F (pc + 1) lv (va :: vb :: va :: vb :: st)) : J p l e Rm s m args below meth c nL D dA ad R A Q F pc lv (va :: vb :: st) := fun H locs ls hP hD hS hl => lv_dup2_11 X.1 X.2.1 hdg hva hvb (k H locs ls hP hD hS hl)
theorem r_sub {lv' : List (Nat × Value)} (ks : List Nat) (hl' : lv_pick lv ks = lv') (k : J p l e Rm s m args below meth c nL D dA ad R A Q F pc lv' st) : J p l e Rm s m args below meth c nL D dA ad R A Q F pc lv st := fun H locs ls hP hD hS hl => k H locs ls hP hD hS (lv_sub hl ks hl')
theorem r_tableIn (X : Cx p s m args meth c cc nL own D dA) {dflt lo hi : Int} {offs : Array Int} {len : Nat} {x : Int32} {off : Int} {tgt : Nat} (hdg : decode cc pc = .ok (.tableswitch dflt lo hi offs, len)) (h1 : ¬ x.toInt < lo) (h2 : ¬ hi < x.toInt) (ho : offs[(x.toInt - lo).toNat]? = some off) (ht : (pc : Int) + off = (tgt : Int)) (k : J p l e Rm s m args below meth c nL D dA ad R A Q F tgt lv st) : J p l e Rm s m args below meth c nL D dA ad R A Q F pc lv (.int x :: st) := fun H locs ls hP hD hS hl => lv_tableIn X.1 X.2.1 hdg h1 h2 ho ht (k H locs ls hP hD hS hl)
theorem r_tableOut (X : Cx p s m args meth c cc nL own D dA) {dflt lo hi : Int} {offs : Array Int} {len : Nat} {x : Int32} {tgt : Nat} (hdg : decode cc pc = .ok (.tableswitch dflt lo hi offs, len)) (h : x.toInt < lo ∨ hi < x.toInt) (ht : (pc : Int) + dflt = (tgt : Int)) (k : J p l e Rm s m args below meth c nL D dA ad R A Q F tgt lv st) : J p l e Rm s m args below meth c nL D dA ad R A Q F pc lv (.int x :: st) := fun H locs ls hP hD hS hl => lv_tableOut X.1 X.2.1 hdg h ht (k H locs ls hP hD hS hl)
theorem r_lookup (X : Cx p s m args meth c cc nL own D dA) {dflt : Int} {ps : Array (Int × Int)} {len : Nat} {x : Int32} {off : Int} {tgt : Nat} (hdg : decode cc pc = .ok (.lookupswitch dflt ps, len)) (hp : (ps.toList.zip (ps.toList.drop 1)).all (fun (a, next) => a.1 < next.1) = true) (ho : Op.lookupswitch.offset ps.toList dflt x.toInt = off) (ht : (pc : Int) + off = (tgt : Int)) (k : J p l e Rm s m args below meth c nL D dA ad R A Q F tgt lv st) : J p l e Rm s m args below meth c nL D dA ad R A Q F pc lv (.int x :: st) := fun H locs ls hP hD hS hl => lv_lookup X.1 X.2.1 hdg hp ho ht (k H locs ls hP hD hS hl)
theorem r_ldc2 (X : Cx p s m args meth c cc nL own D dA) {index : Nat} {v : Int64} (hw : Cond.constantLong own index v ∈ WB) (hdg : decode cc pc = .ok (.ldc2_w index, 3)) (k : J p l e Rm s m args below meth c nL D dA ad R A Q F (pc + 3) lv (.long v :: st)) : J p l e Rm s m args below meth c nL D dA ad R A Q F pc lv st := fun H locs ls hP hD hS hl => lv_ldc2 X.1 X.2.1 X.2.2.2.1 (X.2.2.2.2.1 _ hw) hdg (k H locs ls hP hD hS hl)
theorem r_getI (X : Cx p s m args meth c cc nL own D dA) {k ci j N index : Nat} {C ref : String} {T : u_T} {ty : Nat → FieldType} (hc : CLS ci C T N ty) (hj : j < N) (hi : isr ci j = false) (hw : Cond.fieldLink own index ref (T j).2.1 (T j).2.2.1 ∈ WB) (hsame : (T j).1 = ref) (hk : OB R k ci) (hdg : decode cc pc = .ok (.getfield index, 3)) (kk : J p l e Rm s m args below meth c nL D dA ad R A Q F (pc + 3) lv (.int (F k j) :: st)) : J p l e Rm s m args below meth c nL D dA ad R A Q F pc lv (.ref (ad k) :: st) := by
  intro H locs ls hP hD hS hl
  obtain ⟨q0, hq⟩ := List.getElem?_of_mem hk.2
  refine va_get (C := C) (T := T) (N := N) X.1 X.2.1 X.2.2.2.2.1 hc.2.1 X.2.2.2.1 X.2.2.2.2.2.1 hP q0 ((wl_get hq).trans (by rw [cell_OB hk])) hc.1 j hj (X.2.2.2.2.1 _ hw) (fun x h => by rw [← hsame]; exact h) (fldL_getI (by rw [hc.2.2.1]; exact hj) hi) hdg (kk H locs ls hP hD hS hl)
theorem r_getR (X : Cx p s m args meth c cc nL own D dA) {k ci j N index t : Nat} {C ref : String} {T : u_T} {ty : Nat → FieldType} (hc : CLS ci C T N ty) (hj : j < N) (hi : isr ci j = true) (hw : Cond.fieldLink own index ref (T j).2.1 (T j).2.2.1 ∈ WB) (hsame : (T j).1 = ref) (ht : rfc ci k j = t) (hk : OB R k ci) (hdg : decode cc pc = .ok (.getfield index, 3)) (kk : J p l e Rm s m args below meth c nL D dA ad R A Q F (pc + 3) lv (.ref (ad t) :: st)) : J p l e Rm s m args below meth c nL D dA ad R A Q F pc lv (.ref (ad k) :: st) := by
  intro H locs ls hP hD hS hl
  subst ht
  obtain ⟨q0, hq⟩ := List.getElem?_of_mem hk.2
  refine va_get (C := C) (T := T) (N := N) X.1 X.2.1 X.2.2.2.2.1 hc.2.1 X.2.2.2.1 X.2.2.2.2.2.1 hP q0 ((wl_get hq).trans (by rw [cell_OB hk])) hc.1 j hj (X.2.2.2.2.1 _ hw) (fun x h => by rw [← hsame]; exact h) (fldL_getR (by rw [hc.2.2.1]; exact hj) hi) hdg (kk H locs ls hP hD hS hl)
theorem r_putI (X : Cx p s m args meth c cc nL own D dA) {k ci j N index : Nat} {C ref : String} {T : u_T} {ty : Nat → FieldType} {v : Int32} (hc : CLS ci C T N ty) (hj : j < N) (hi : isr ci j = false) (hw : Cond.fieldLink own index ref (T j).2.1 (T j).2.2.1 ∈ WB) (hsame : (T j).1 = ref) (hfin : (T j).2.2.2 = false) (hn : narrow (ty j) (.int v) = .int v) (hfit : fits (ty j) (.int v) = true) (hk : OB R k ci) (hdg : decode cc pc = .ok (.putfield index, 3)) (kk : ∀ F1 : HF, F1 = hup F k j v → J p l e Rm s m args below meth c nL D dA ad R A Q F1 (pc + 3) lv st) : J p l e Rm s m args below meth c nL D dA ad R A Q F pc lv (.int v :: .ref (ad k) :: st) := by
  intro H locs ls hP hD hS hl
  obtain ⟨q0, hq⟩ := List.getElem?_of_mem hk.2
  have hset : ∀ e, e = Sum.inr (ci, (fldL ad F ci k).set j (.int v)) → (wl dA ad R F).set q0 (ad k, e) = wl dA ad R (hup F k j v) := by
    intro e he
    refine wl_set hD hq (fun i hi => hup_n F j v hi) ?_
    rw [cell_OB hk, fldL_set (by rw [hc.2.2.1]; exact hj) hi, he]
  refine va_put (C := C) (T := T) (N := N) (fs := fldL ad F ci k) (ty := ty j) X.1 X.2.1 X.2.2.2.2.1 hc.2.1 ty hc.2.2.2.1 hc.2.2.2.2 X.2.2.2.1 X.2.2.2.2.2.1 hP hD hS q0 ((wl_get hq).trans (by rw [cell_OB hk])) hc.1 j hj (X.2.2.2.2.1 _ hw) (fun x h => by rw [← hsame]; exact h) hfin (hc.2.2.2.1 j hj) hn hfit (by rw [show (fldL ad F ci k).length = nf ci by simp [fldL], hc.2.2.1]; exact hj) hdg ?_
  intro H1 locs1 hP1 hD1 hS1
  rw [hset _ rfl] at hP1 hD1
  exact kk _ rfl H1 locs1 ls hP1 hD1 hS1 hl
theorem r_iald (X : Cx p s m args meth c cc nL own D dA) {k n : Nat} {i : Int32} (hk : IA R k n) (hin : vp_in i n) (hdg : decode cc pc = .ok (.iaload, 1)) (kk : J p l e Rm s m args below meth c nL D dA ad R A Q F (pc + 1) lv (.int (F k i.toNatClampNeg) :: st)) : J p l e Rm s m args below meth c nL D dA ad R A Q F pc lv (.int i :: .ref (ad k) :: st) := by
  intro H locs ls hP hD hS hl
  obtain ⟨q0, hq⟩ := List.getElem?_of_mem hk.2
  exact va_iald X.1 X.2.1 X.2.2.2.2.2.1 hP q0 0 ((wl_get hq).trans (by rw [cell_IA hk])) rfl hin hdg (kk H locs ls hP hD hS hl)
theorem r_cald (X : Cx p s m args meth c cc nL own D dA) {k n : Nat} {i : Int32} (hk : CA R k n) (hin : vp_in i n) (hdg : decode cc pc = .ok (.caload, 1)) (kk : J p l e Rm s m args below meth c nL D dA ad R A Q F (pc + 1) lv (.int (F k i.toNatClampNeg) :: st)) : J p l e Rm s m args below meth c nL D dA ad R A Q F pc lv (.int i :: .ref (ad k) :: st) := by
  intro H locs ls hP hD hS hl
  obtain ⟨q0, hq⟩ := List.getElem?_of_mem hk.2
  exact va_cald X.1 X.2.1 X.2.2.2.2.2.1 hP q0 1 ((wl_get hq).trans (by rw [cell_CA hk])) rfl hin hdg (kk H locs ls hP hD hS hl)
theorem r_alen (X : Cx p s m args meth c cc nL own D dA) {k n : Nat} {v : Int32} (hk : IA R k n ∨ CA R k n ∨ NA R k n) (hv : Int32.ofNat n = v) (hdg : decode cc pc = .ok (.arraylength, 1)) (kk : J p l e Rm s m args below meth c nL D dA ad R A Q F (pc + 1) lv (.int v :: st)) : J p l e Rm s m args below meth c nL D dA ad R A Q F pc lv (.ref (ad k) :: st) := by
  intro H locs ls hP hD hS hl
  rcases hk with hk | hk | hk
  · obtain ⟨q0, hq⟩ := List.getElem?_of_mem hk.2
    exact va_alen (ty := .int) X.1 X.2.1 X.2.2.2.2.2.1 hP q0 0 ((wl_get hq).trans (by rw [cell_IA hk])) rfl hv hdg (kk H locs ls hP hD hS hl)
  · obtain ⟨q0, hq⟩ := List.getElem?_of_mem hk.2
    exact va_alen (ty := .char) X.1 X.2.1 X.2.2.2.2.2.1 hP q0 1 ((wl_get hq).trans (by rw [cell_CA hk])) rfl hv hdg (kk H locs ls hP hD hS hl)
  · obtain ⟨q0, hq⟩ := List.getElem?_of_mem hk.2
    exact va_alen (ty := .object RX2) X.1 X.2.1 X.2.2.2.2.2.1 hP q0 2 ((wl_get hq).trans (by rw [cell_NA hk])) rfl hv hdg (kk H locs ls hP hD hS hl)
theorem r_iast (X : Cx p s m args meth c cc nL own D dA) {k n : Nat} {i x : Int32} (hk : IA R k n) (hin : vp_in i n) (hdg : decode cc pc = .ok (.iastore, 1)) (kk : ∀ F1 : HF, F1 = hup F k i.toNatClampNeg x → J p l e Rm s m args below meth c nL D dA ad R A Q F1 (pc + 1) lv st) : J p l e Rm s m args below meth c nL D dA ad R A Q F pc lv (.int x :: .int i :: .ref (ad k) :: st) := by
  intro H locs ls hP hD hS hl
  obtain ⟨q0, hq⟩ := List.getElem?_of_mem hk.2
  refine va_iast X.1 X.2.1 X.2.2.2.2.2.1 hP hD hS q0 0 ((wl_get hq).trans (by rw [cell_IA hk])) rfl hin hdg ?_
  intro H1 locs1 hP1 hD1 hS1
  rw [wl_set (F' := hup F k i.toNatClampNeg x) hD hq (fun a ha => hup_n F _ _ ha) (by rw [cell_IA hk, hup_s])] at hP1 hD1
  exact kk _ rfl H1 locs1 ls hP1 hD1 hS1 hl
theorem r_cast (X : Cx p s m args meth c cc nL own D dA) {k n : Nat} {i x : Int32} (hk : CA R k n) (hin : vp_in i n) (hdg : decode cc pc = .ok (.castore, 1)) (kk : ∀ F1 : HF, F1 = hup F k i.toNatClampNeg (vp_nar .char x) → J p l e Rm s m args below meth c nL D dA ad R A Q F1 (pc + 1) lv st) : J p l e Rm s m args below meth c nL D dA ad R A Q F pc lv (.int x :: .int i :: .ref (ad k) :: st) := by
  intro H locs ls hP hD hS hl
  obtain ⟨q0, hq⟩ := List.getElem?_of_mem hk.2
  refine va_cast X.1 X.2.1 X.2.2.2.2.2.1 hP hD hS q0 1 ((wl_get hq).trans (by rw [cell_CA hk])) rfl hin hdg ?_
  intro H1 locs1 hP1 hD1 hS1
  rw [wl_set (F' := hup F k i.toNatClampNeg (vp_nar .char x)) hD hq (fun a ha => hup_n F _ _ ha) (by rw [cell_CA hk, hup_s])] at hP1 hD1
  exact kk _ rfl H1 locs1 ls hP1 hD1 hS1 hl
theorem r_aald (X : Cx p s m args meth c cc nL own D dA) {k n : Nat} {i : Int32} (hk : NA R k n) (hin : vp_in i n) (hdg : decode cc pc = .ok (.aaload, 1)) (kk : J p l e Rm s m args below meth c nL D dA ad R A Q F (pc + 1) lv (.ref (ad (F k i.toNatClampNeg).toNatClampNeg) :: st)) : J p l e Rm s m args below meth c nL D dA ad R A Q F pc lv (.int i :: .ref (ad k) :: st) := by
  intro H locs ls hP hD hS hl
  obtain ⟨q0, hq⟩ := List.getElem?_of_mem hk.2
  exact va_aldq (f := fun j => some (ad (F k j).toNatClampNeg)) X.1 X.2.1 X.2.2.2.2.2.1 hP q0 2 ((wl_get hq).trans (by rw [cell_NA hk])) rfl hin hdg (kk H locs ls hP hD hS hl)
theorem r_aast (X : Cx p s m args meth c cc nL own D dA) {k n v : Nat} {i : Int32} (hk : NA R k n) (hv : OB R v 2) (hvl : v < 2 ^ 31) (hin : vp_in i n) (hdg : decode cc pc = .ok (.aastore, 1)) (kk : ∀ F1 : HF, F1 = hup F k i.toNatClampNeg (nI v) → J p l e Rm s m args below meth c nL D dA ad R A Q F1 (pc + 1) lv st) : J p l e Rm s m args below meth c nL D dA ad R A Q F pc lv (.ref (ad v) :: .int i :: .ref (ad k) :: st) := by
  intro H locs ls hP hD hS hl
  obtain ⟨q0, hq⟩ := List.getElem?_of_mem hk.2
  obtain ⟨q1, hq1⟩ := List.getElem?_of_mem hv.2
  refine va_astq X.1 X.2.1 X.2.2.2.2.2.1 hP hD hS q0 2 q1 2 (r := (RX2, TX2, 6)) ((wl_get hq).trans (by rw [cell_NA hk])) rfl ((wl_get hq1).trans (by rw [cell_OB hv])) rfl hin hdg ?_
  intro H1 locs1 hP1 hD1 hS1
  rw [wl_set (F' := hup F k i.toNatClampNeg (nI v)) hD hq (fun a ha => hup_n F _ _ ha) (by
    rw [cell_NA hk, hup_s]
    have : (fun j => some (ad (upd (F k) i.toNatClampNeg (nI v) j).toNatClampNeg)) = va_up (fun j => some (ad (F k j).toNatClampNeg)) i.toNatClampNeg (some (ad v)) := by
      funext j
      by_cases hj : j = i.toNatClampNeg
      · simp [upd, va_up, hj, nI_clamp hvl]
      · simp [upd, va_up, hj]
    rw [this])] at hP1 hD1
  exact kk _ rfl H1 locs1 ls hP1 hD1 hS1 hl
theorem r_copy (X : Cx p s m args meth c cc nL own D dA) {k0 k1 n0 n1 index : Nat} {n : Int32} (hw : Cond.methodLink own index arraycopyName ∈ WB) (hw2 : Cond.native arraycopyName ∈ WB) (hw3 : Cond.static arraycopyName ∈ WB) (hw4 : Cond.initialized "java/lang/System" ∈ WB) (hk0 : IA R k0 n0) (hk1 : IA R k1 n1) (h3 : ¬ n < 0) (h4 : n.toNatClampNeg ≤ n0) (h5 : n.toNatClampNeg ≤ n1) (hframes : 1 ≤ Rm.frames) (hlocals : (st.map fun v => v.category).sum + (nativeFrameWords "java/lang/System" "arraycopy" 5 + 11) ≤ Rm.locals) (hdg : decode cc pc = .ok (.invokestatic index, 3)) (kk : ∀ F1 : HF, F1 = hst F k1 (va_cpy (F k0) (F k1) 0 0 n.toNatClampNeg) → J p l e Rm s m args below meth c nL D dA ad R A Q F1 (pc + 3) lv st) : J p l e Rm s m args below meth c nL D dA ad R A Q F pc lv (.int n :: .int 0 :: .ref (ad k1) :: .int 0 :: .ref (ad k0) :: st) := by
  intro H locs ls hP hD hS hl
  obtain ⟨q0, hq0⟩ := List.getElem?_of_mem hk0.2
  obtain ⟨q1, hq1⟩ := List.getElem?_of_mem hk1.2
  have hz : (0 : Int32).toNatClampNeg = 0 := rfl
  refine va_copyi X.1 X.2.1 (X.2.2.1.trans hl.1.symm) X.2.2.2.1 (X.2.2.2.2.1 _ hw) (X.2.2.2.2.1 _ hw2) (X.2.2.2.2.1 _ hw3) (X.2.2.2.2.1 _ hw4) X.2.2.2.2.2.1 hP hD hS q0 q1 0 0 ((wl_get hq0).trans (by rw [cell_IA hk0])) ((wl_get hq1).trans (by rw [cell_IA hk1])) rfl rfl rfl (sp := 0) (dp := 0) (by decide) (by decide) h3 (by rw [hz]; omega) (by rw [hz]; omega) (fun _ _ => rfl) hframes hlocals hdg ?_
  intro H1 locs1 hP1 hD1 hS1
  rw [wl_set (F' := hst F k1 (va_cpy (F k0) (F k1) 0 0 n.toNatClampNeg)) hD hq1 (fun a ha => hst_n F _ ha) (by rw [cell_IA hk1, hst_s]; rfl)] at hP1 hD1
  exact kk _ rfl H1 locs1 ls hP1 hD1 hS1 hl
theorem r_mabs (X : Cx p s m args meth c cc nL own D dA) {index : Nat} {x : Int32} (hw : Cond.methodLink own index Lib.Math.abs.name ∈ WB) (hw2 : Cond.static Lib.Math.abs.name ∈ WB) (hw3 : Cond.initialized "java/lang/Math" ∈ WB) (hw4 : Cond.code Lib.Math.abs.name Lib.Math.abs.code 1 (some .int) ∈ WB) (hframes : 1 ≤ Rm.frames) (hlocals : (st.map fun v => v.category).sum + 13 ≤ Rm.locals) (hdg : decode cc pc = .ok (.invokestatic index, 3)) (kk : J p l e Rm s m args below meth c nL D dA ad R A Q F (pc + 3) lv (.int (if 0 ≤ x then x else 0 - x) :: st)) : J p l e Rm s m args below meth c nL D dA ad R A Q F pc lv (.int x :: st) := fun H locs ls hP hD hS hl => va_mabs X.1 X.2.1 (X.2.2.1.trans hl.1.symm) X.2.2.2.1 (X.2.2.2.2.1 _ hw) (X.2.2.2.2.1 _ hw2) (X.2.2.2.2.1 _ hw3) (X.2.2.2.2.1 _ hw4) hframes hlocals (Nat.zero_le _) (Nat.zero_le _) hdg (kk H locs ls hP hD hS hl)
theorem r_mmin (X : Cx p s m args meth c cc nL own D dA) {index : Nat} {x y : Int32} (hw : Cond.methodLink own index Lib.Math.min.name ∈ WB) (hw2 : Cond.static Lib.Math.min.name ∈ WB) (hw3 : Cond.initialized "java/lang/Math" ∈ WB) (hw4 : Cond.code Lib.Math.min.name Lib.Math.min.code 2 (some .int) ∈ WB) (hframes : 1 ≤ Rm.frames) (hlocals : (st.map fun v => v.category).sum + 13 ≤ Rm.locals) (hdg : decode cc pc = .ok (.invokestatic index, 3)) (kk : J p l e Rm s m args below meth c nL D dA ad R A Q F (pc + 3) lv (.int (if y < x then y else x) :: st)) : J p l e Rm s m args below meth c nL D dA ad R A Q F pc lv (.int y :: .int x :: st) := fun H locs ls hP hD hS hl => va_mmin X.1 X.2.1 (X.2.2.1.trans hl.1.symm) X.2.2.2.1 (X.2.2.2.2.1 _ hw) (X.2.2.2.2.1 _ hw2) (X.2.2.2.2.1 _ hw3) (X.2.2.2.2.1 _ hw4) hframes hlocals (Nat.zero_le _) (Nat.zero_le _) hdg (kk H locs ls hP hD hS hl)
theorem r_mmax (X : Cx p s m args meth c cc nL own D dA) {index : Nat} {x y : Int32} (hw : Cond.methodLink own index Lib.Math.max.name ∈ WB) (hw2 : Cond.static Lib.Math.max.name ∈ WB) (hw3 : Cond.initialized "java/lang/Math" ∈ WB) (hw4 : Cond.code Lib.Math.max.name Lib.Math.max.code 2 (some .int) ∈ WB) (hframes : 1 ≤ Rm.frames) (hlocals : (st.map fun v => v.category).sum + 13 ≤ Rm.locals) (hdg : decode cc pc = .ok (.invokestatic index, 3)) (kk : J p l e Rm s m args below meth c nL D dA ad R A Q F (pc + 3) lv (.int (if x < y then y else x) :: st)) : J p l e Rm s m args below meth c nL D dA ad R A Q F pc lv (.int y :: .int x :: st) := fun H locs ls hP hD hS hl => va_mmax X.1 X.2.1 (X.2.2.1.trans hl.1.symm) X.2.2.2.1 (X.2.2.2.2.1 _ hw) (X.2.2.2.2.1 _ hw2) (X.2.2.2.2.1 _ hw3) (X.2.2.2.2.1 _ hw4) hframes hlocals (Nat.zero_le _) (Nat.zero_le _) hdg (kk H locs ls hP hD hS hl)
/-! ===== contracts over the numbers ===== -/
/-- at a method's start -/
def PreN (D : va_G) (dA : Nat → ClassId) (ad : Nat → Nat) (R : List Nat) (F : HF) (sz : Nat) (U : State) : Prop := U.heap.size = sz ∧ va_P D clsL (wl dA ad R F) U.heap ∧ va_K D clsL (tysL dA) U ∧ va_D (fun _ => True) (wl dA ad R F)
/-- at its end -/
def PostN (D : va_G) (dA : Nat → ClassId) (ad : Nat → Nat) (R : List Nat) (A : Nat → Prop) (F : HF) (t : State) : Prop := va_P D clsL (wl dA ad R F) t.heap ∧ va_K D clsL (tysL dA) t ∧ va_D A (wl dA ad R F)
abbrev AN (dA : Nat → ClassId) (ad : Nat → Nat) (R : List Nat) (F : HF) (sz : Nat) : Nat → Prop := va_A (wl dA ad R F) sz
/-- a contract with an int answer -/
def MI (l : Launch) (y : MethodName) (b : ByteArray) (n : Nat) (rt : FieldType) (rm : Room) (D : va_G) (dA : Nat → ClassId) (ad : Nat → Nat) (R : List Nat) (F : HF) (av : List Value) (K : Int32 → HF → Prop) : Prop := ∀ sz : Nat, Met l y (Cond.code y b n (some rt) :: WB) rm (va_Pc av (PreN D dA ad R F sz)) (va_Qi K (PostN D dA ad R (AN dA ad R F sz)) (AN dA ad R F sz)) 0 0 (AN dA ad R F sz)
/-- a contract without an answer -/
def MV (l : Launch) (y : MethodName) (b : ByteArray) (n : Nat) (rm : Room) (D : va_G) (dA : Nat → ClassId) (ad : Nat → Nat) (R : List Nat) (F : HF) (av : List Value) (K : HF → Prop) : Prop := ∀ sz : Nat, Met l y (Cond.code y b n none :: WB) rm (va_Pc av (PreN D dA ad R F sz)) (va_Qv K (PostN D dA ad R (AN dA ad R F sz)) (AN dA ad R F sz)) 0 0 (AN dA ad R F sz)
abbrev QI (D : va_G) (dA : Nat → ClassId) (ad : Nat → Nat) (R : List Nat) (A : Nat → Prop) (below : List Frame) (args : Array Value) (s : State) (K : Int32 → HF → Prop) : State → Prop := MQ below (va_Qi K (PostN D dA ad R A) A) args s 0 0 A
abbrev QV (D : va_G) (dA : Nat → ClassId) (ad : Nat → Nat) (R : List Nat) (A : Nat → Prop) (below : List Frame) (args : Array Value) (s : State) (K : HF → Prop) : State → Prop := MQ below (va_Qv K (PostN D dA ad R A) A) args s 0 0 A
theorem MI.of {y : MethodName} {b : ByteArray} {n : Nat} {rt : FieldType} {rm : Room} {av : List Value} {K : Int32 → HF → Prop} {own : String} (hy : plainName y.cls = true) (ho : own = y.cls) (hn : (lg_sl av).length ≤ n)
    (body : ∀ (p : Program) (e : Env) (s : State) (m : MethodId) (args : Array Value) (below : List Frame) (meth : Method) (c : Code) (A : Nat → Prop), (∀ q, s.heap.size ≤ q → A q) → Cx p s m args meth c b n own D dA → meth.sig.returnType = some rt → J p l e rm s m args below meth c n D dA ad R A (QI D dA ad R A below args s K) F 0 (lv_args 0 av) []) : MI l y b n rt rm D dA ad R F av K := by
  intro sz
  refine Met.ofW (cc := b) (maxL := n) (ret := some rt) hy rfl ?_
  intro p e s m args below meth c s₁ B hml hv
  obtain ⟨rfl, hsz, hP, hK, hD0⟩ := hv
  have hts := atoms_spec (ws := Cond.code y b n (some rt) :: WB) B.pre
  subst hsz
  have hD := hD0.self (sz := s.heap.size)
  rw [lg_entry_eq]
  have hown : s.vm.findClass own = some m.cls := by rw [ho]; exact findClass_of_methodNamed B.named
  exact body p e s m _ below meth c (AN dA ad R F s.heap.size) (fun q h => Or.inr h) ⟨B.exec, B.bytes, hml, hown, fun w h => hts w (List.mem_cons_of_mem _ h), hK, B.notSynchronized⟩ B.returns s.heap [] _ hP hD va_S.rf (lv_entry av hn)
theorem MV.of {y : MethodName} {b : ByteArray} {n : Nat} {rm : Room} {av : List Value} {K : HF → Prop} {own : String} (hy : plainName y.cls = true) (ho : own = y.cls) (hn : (lg_sl av).length ≤ n)
    (body : ∀ (p : Program) (e : Env) (s : State) (m : MethodId) (args : Array Value) (below : List Frame) (meth : Method) (c : Code) (A : Nat → Prop), (∀ q, s.heap.size ≤ q → A q) → Cx p s m args meth c b n own D dA → meth.sig.returnType = none → J p l e rm s m args below meth c n D dA ad R A (QV D dA ad R A below args s K) F 0 (lv_args 0 av) []) : MV l y b n rm D dA ad R F av K := by
  intro sz
  refine Met.ofW (cc := b) (maxL := n) (ret := none) hy rfl ?_
  intro p e s m args below meth c s₁ B hml hv
  obtain ⟨rfl, hsz, hP, hK, hD0⟩ := hv
  have hts := atoms_spec (ws := Cond.code y b n none :: WB) B.pre
  subst hsz
  have hD := hD0.self (sz := s.heap.size)
  rw [lg_entry_eq]
  have hown : s.vm.findClass own = some m.cls := by rw [ho]; exact findClass_of_methodNamed B.named
  exact body p e s m _ below meth c (AN dA ad R F s.heap.size) (fun q h => Or.inr h) ⟨B.exec, B.bytes, hml, hown, fun w h => hts w (List.mem_cons_of_mem _ h), hK, B.notSynchronized⟩ B.returns s.heap [] _ hP hD va_S.rf (lv_entry av hn)
theorem r_iret (X : Cx p s m args meth c cc nL own D dA) {K : Int32 → HF → Prop} {v : Int32} (hr : meth.sig.returnType = some .int) (hdg : decode cc pc = .ok (.ireturn, 1)) (h : K v F) : J p l e Rm s m args below meth c nL D dA ad R A (QI D dA ad R A below args s K) F pc lv [.int v] := fun H locs ls hP hD hS hl =>
  W.iret X.1 X.2.1 hr (fun t ht hW => ⟨⟨v, F, rfl, h, by rw [ht]; exact hP, va_K.moved hW.alike X.2.2.2.2.2.1, hD⟩, hS.F ht⟩) hS.2.2 hdg X.2.2.2.2.2.2
theorem r_zret (X : Cx p s m args meth c cc nL own D dA) {K : Int32 → HF → Prop} {v : Int32} {rt : FieldType} (hr : meth.sig.returnType = some rt) (hdg : decode cc pc = .ok (.ireturn, 1)) (hn : narrow rt (.int v) = .int v) (h : K v F) : J p l e Rm s m args below meth c nL D dA ad R A (QI D dA ad R A below args s K) F pc lv [.int v] := fun H locs ls hP hD hS hl =>
  W.zret X.1 X.2.1 hr hn (fun t ht hW => ⟨⟨v, F, rfl, h, by rw [ht]; exact hP, va_K.moved hW.alike X.2.2.2.2.2.1, hD⟩, hS.F ht⟩) hS.2.2 hdg X.2.2.2.2.2.2
theorem r_vret (X : Cx p s m args meth c cc nL own D dA) {K : HF → Prop} (hr : meth.sig.returnType = none) (hdg : decode cc pc = .ok (.return_, 1)) (h : K F) : J p l e Rm s m args below meth c nL D dA ad R A (QV D dA ad R A below args s K) F pc lv [] := fun H locs ls hP hD hS hl =>
  W.vret X.1 X.2.1 hr (fun t ht hW => ⟨⟨F, rfl, h, by rw [ht]; exact hP, va_K.moved hW.alike X.2.2.2.2.2.1, hD⟩, hS.F ht⟩) hS.2.2 hdg X.2.2.2.2.2.2
theorem PreN_blind {F : HF} {sz : Nat} {av : List Value} : FrameBlind (va_Pc av (PreN D dA ad R F sz)) := fun a U g mk q => by
  obtain ⟨q0, q1, qP, qK, qD⟩ := q
  exact ⟨q0, q1, qP, va_K.moved (u := U) (U := U.calling g mk a) (Vm.Alike.refl U.vm) qK, qD⟩
theorem AN_in {H0 H : Heap} {locs : List Loc} (hD : va_D A (wl dA ad R F)) (hS : va_S A H0 H locs) (hA : ∀ q, H0.size ≤ q → A q) : ∀ q, AN dA ad R F H.size q → A q := by
  intro q h
  rcases h with ⟨k, e, h⟩ | h
  · exact hD.2 k (q, e) h
  · exact hA q (Nat.le_trans hS.1 h)
theorem PostN_D {F' : HF} (hD : va_D A (wl dA ad R F)) {A1 : Nat → Prop} (h : va_D A1 (wl dA ad R F')) (hle : ∀ q, A1 q → A q) : va_D A (wl dA ad R F') := ⟨h.1, fun k q hk => hle _ (h.2 k q hk)⟩
theorem r_callIV (X : Cx p s m args meth c cc nL own D dA) (hA : ∀ q, s.heap.size ≤ q → A q) {y : MethodName} {b : ByteArray} {n t ci np idx N : Nat} {rt : FieldType} {rm : Room} {As : List Value} {K : Int32 → HF → Prop} {C : String} {T : u_T} {ty : Nat → FieldType} {st0 : List Value} (hM : MI l y b n rt rm D dA ad R F (.ref (ad t) :: As) K) (hG : GoodIn WB (wsV own idx C y (Cond.code y b n (some rt) :: WB))) (hc : CLS ci C T N ty) (hk : OB R t ci) (hd : y.cls = C ∧ y.cls ≠ "java/lang/invoke/MethodHandle" ∧ y.cls ≠ "java/lang/invoke/VarHandle" ∧ (parseMethodDescriptor y.desc).map (fun d => d.parameters.length) = some np) (hnp : As.length = np) (hrc : rm.cells = 0) (hrs : rm.slots = 0) (hRm : rm.frames + 1 ≤ Rm.frames ∧ 8 + (n + 11) + rm.locals ≤ Rm.locals) (hst : st0 = As.reverse ++ .ref (ad t) :: st) (hcat : (st.map fun v => v.category).sum ≤ 8) (hdg : decode cc pc = .ok (.invokevirtual idx, 3)) (kk : ∀ (r : Int32) (F1 : HF), K r F1 → J p l e Rm s m args below meth c nL D dA ad R A Q F1 (pc + 3) lv (.int r :: st)) : J p l e Rm s m args below meth c nL D dA ad R A Q F pc lv st0 := by
  intro H locs ls hP hD hS hl
  subst hst
  obtain ⟨q0, hq⟩ := List.getElem?_of_mem hk.2
  have hFc := AN_in hD hS hA
  refine va_calli (va_runV (As := As) (rest := st) ⟨X.1, X.2.1, X.2.2.1, X.2.2.2.1, X.2.2.2.2.1⟩ (hM H.size) (cwV np X.2.2.2.2.1 hG rfl hrc hrs hd hRm) ⟨PreN_blind, va_recv X.2.2.2.2.2.1 hP hc.1 ((wl_get hq).trans (by rw [cell_OB hk])), fun U hU hW => ⟨rfl, by rw [hU], by rw [hU]; exact hP, va_K.moved hW.alike X.2.2.2.2.2.1, hD.weaken (fun _ _ _ _ => trivial)⟩⟩ rfl hnp hl.1 rfl (lv_room hcat) hdg ⟨Nat.zero_le _, Nat.zero_le _⟩) hS (fun q _ h => hFc q h) hFc ?_
  intro r u t' H1 locs1 ht hvm hw hB hz1 hk1 hS1
  refine kk r u hw H1 locs1 ls (by rw [← ht]; exact hB.1) (PostN_D hD hB.2.2 hFc) hS1 hl
theorem r_callVV (X : Cx p s m args meth c cc nL own D dA) (hA : ∀ q, s.heap.size ≤ q → A q) {y : MethodName} {b : ByteArray} {n t ci np idx N : Nat} {rm : Room} {As : List Value} {K : HF → Prop} {C : String} {T : u_T} {ty : Nat → FieldType} {st0 : List Value} (hM : MV l y b n rm D dA ad R F (.ref (ad t) :: As) K) (hG : GoodIn WB (wsV own idx C y (Cond.code y b n none :: WB))) (hc : CLS ci C T N ty) (hk : OB R t ci) (hd : y.cls = C ∧ y.cls ≠ "java/lang/invoke/MethodHandle" ∧ y.cls ≠ "java/lang/invoke/VarHandle" ∧ (parseMethodDescriptor y.desc).map (fun d => d.parameters.length) = some np) (hnp : As.length = np) (hrc : rm.cells = 0) (hrs : rm.slots = 0) (hRm : rm.frames + 1 ≤ Rm.frames ∧ 8 + (n + 11) + rm.locals ≤ Rm.locals) (hst : st0 = As.reverse ++ .ref (ad t) :: st) (hcat : (st.map fun v => v.category).sum ≤ 8) (hdg : decode cc pc = .ok (.invokevirtual idx, 3)) (kk : ∀ (F1 : HF), K F1 → J p l e Rm s m args below meth c nL D dA ad R A Q F1 (pc + 3) lv st) : J p l e Rm s m args below meth c nL D dA ad R A Q F pc lv st0 := by
  intro H locs ls hP hD hS hl
  subst hst
  obtain ⟨q0, hq⟩ := List.getElem?_of_mem hk.2
  have hFc := AN_in hD hS hA
  refine va_callv (va_runV (As := As) (rest := st) ⟨X.1, X.2.1, X.2.2.1, X.2.2.2.1, X.2.2.2.2.1⟩ (hM H.size) (cwV np X.2.2.2.2.1 hG rfl hrc hrs hd hRm) ⟨PreN_blind, va_recv X.2.2.2.2.2.1 hP hc.1 ((wl_get hq).trans (by rw [cell_OB hk])), fun U hU hW => ⟨rfl, by rw [hU], by rw [hU]; exact hP, va_K.moved hW.alike X.2.2.2.2.2.1, hD.weaken (fun _ _ _ _ => trivial)⟩⟩ rfl hnp hl.1 rfl (lv_room hcat) hdg ⟨Nat.zero_le _, Nat.zero_le _⟩) hS (fun q _ h => hFc q h) hFc ?_
  intro u t' H1 locs1 ht hvm hw hB hz1 hk1 hS1
  refine kk u hw H1 locs1 ls (by rw [← ht]; exact hB.1) (PostN_D hD hB.2.2 hFc) hS1 hl
theorem r_callIS (X : Cx p s m args meth c cc nL own D dA) (hA : ∀ q, s.heap.size ≤ q → A q) {y : MethodName} {b : ByteArray} {n np idx : Nat} {rt : FieldType} {rm : Room} {As : List Value} {K : Int32 → HF → Prop} {st0 : List Value} (hM : MI l y b n rt rm D dA ad R F As K) (hG : GoodIn WB (wsS own idx y (Cond.code y b n (some rt) :: WB))) (hd : y.cls = own ∧ y.cls ≠ "java/lang/invoke/MethodHandle" ∧ y.cls ≠ "java/lang/invoke/VarHandle" ∧ (parseMethodDescriptor y.desc).map (fun d => d.parameters.length) = some np) (hnp : As.length = np) (hrc : rm.cells = 0) (hrs : rm.slots = 0) (hRm : rm.frames + 1 ≤ Rm.frames ∧ 8 + (n + 11) + rm.locals ≤ Rm.locals) (hst : st0 = As.reverse ++ st) (hcat : (st.map fun v => v.category).sum ≤ 8) (hdg : decode cc pc = .ok (.invokestatic idx, 3)) (kk : ∀ (r : Int32) (F1 : HF), K r F1 → J p l e Rm s m args below meth c nL D dA ad R A Q F1 (pc + 3) lv (.int r :: st)) : J p l e Rm s m args below meth c nL D dA ad R A Q F pc lv st0 := by
  intro H locs ls hP hD hS hl
  subst hst
  have hFc := AN_in hD hS hA
  refine va_calli (va_runS (As := As) (rest := st) ⟨X.1, X.2.1, X.2.2.1, X.2.2.2.1, X.2.2.2.2.1⟩ (hM H.size) (cwS np X.2.2.2.2.1 hG rfl hrc hrs hd hRm) ⟨PreN_blind, fun U hU hW => ⟨rfl, by rw [hU], by rw [hU]; exact hP, va_K.moved hW.alike X.2.2.2.2.2.1, hD.weaken (fun _ _ _ _ => trivial)⟩⟩ rfl hnp hl.1 rfl (lv_room hcat) hdg ⟨Nat.zero_le _, Nat.zero_le _⟩) hS (fun q _ h => hFc q h) hFc ?_
  intro r u t' H1 locs1 ht hvm hw hB hz1 hk1 hS1
  refine kk r u hw H1 locs1 ls (by rw [← ht]; exact hB.1) (PostN_D hD hB.2.2 hFc) hS1 hl
theorem r_callVS (X : Cx p s m args meth c cc nL own D dA) (hA : ∀ q, s.heap.size ≤ q → A q) {y : MethodName} {b : ByteArray} {n np idx : Nat} {rm : Room} {As : List Value} {K : HF → Prop} {st0 : List Value} (hM : MV l y b n rm D dA ad R F As K) (hG : GoodIn WB (wsS own idx y (Cond.code y b n none :: WB))) (hd : y.cls = own ∧ y.cls ≠ "java/lang/invoke/MethodHandle" ∧ y.cls ≠ "java/lang/invoke/VarHandle" ∧ (parseMethodDescriptor y.desc).map (fun d => d.parameters.length) = some np) (hnp : As.length = np) (hrc : rm.cells = 0) (hrs : rm.slots = 0) (hRm : rm.frames + 1 ≤ Rm.frames ∧ 8 + (n + 11) + rm.locals ≤ Rm.locals) (hst : st0 = As.reverse ++ st) (hcat : (st.map fun v => v.category).sum ≤ 8) (hdg : decode cc pc = .ok (.invokestatic idx, 3)) (kk : ∀ (F1 : HF), K F1 → J p l e Rm s m args below meth c nL D dA ad R A Q F1 (pc + 3) lv st) : J p l e Rm s m args below meth c nL D dA ad R A Q F pc lv st0 := by
  intro H locs ls hP hD hS hl
  subst hst
  have hFc := AN_in hD hS hA
  refine va_callv (va_runS (As := As) (rest := st) ⟨X.1, X.2.1, X.2.2.1, X.2.2.2.1, X.2.2.2.2.1⟩ (hM H.size) (cwS np X.2.2.2.2.1 hG rfl hrc hrs hd hRm) ⟨PreN_blind, fun U hU hW => ⟨rfl, by rw [hU], by rw [hU]; exact hP, va_K.moved hW.alike X.2.2.2.2.2.1, hD.weaken (fun _ _ _ _ => trivial)⟩⟩ rfl hnp hl.1 rfl (lv_room hcat) hdg ⟨Nat.zero_le _, Nat.zero_le _⟩) hS (fun q _ h => hFc q h) hFc ?_
  intro u t' H1 locs1 ht hvm hw hB hz1 hk1 hS1
  refine kk u hw H1 locs1 ls (by rw [← ht]; exact hB.1) (PostN_D hD hB.2.2 hFc) hS1 hl
/-- a contract whose answer is the reference of a role -/
def MR (l : Launch) (y : MethodName) (b : ByteArray) (n : Nat) (rt : FieldType) (rm : Room) (D : va_G) (dA : Nat → ClassId) (ad : Nat → Nat) (R : List Nat) (F : HF) (av : List Value) (K : Nat → HF → Prop) : Prop := ∀ sz : Nat, Met l y (Cond.code y b n (some rt) :: WB) rm (va_Pc av (PreN D dA ad R F sz)) (va_Qr (fun u : Nat × HF => K u.1 u.2) (fun u a t => a = ad u.1 ∧ PostN D dA ad R (AN dA ad R F sz) u.2 t) (AN dA ad R F sz)) 0 0 (AN dA ad R F sz)
abbrev QR (D : va_G) (dA : Nat → ClassId) (ad : Nat → Nat) (R : List Nat) (A : Nat → Prop) (below : List Frame) (args : Array Value) (s : State) (K : Nat → HF → Prop) : State → Prop := MQ below (va_Qr (fun u : Nat × HF => K u.1 u.2) (fun u a t => a = ad u.1 ∧ PostN D dA ad R A u.2 t) A) args s 0 0 A
theorem MR.of {y : MethodName} {b : ByteArray} {n : Nat} {rt : FieldType} {rm : Room} {av : List Value} {K : Nat → HF → Prop} {own : String} (hy : plainName y.cls = true) (ho : own = y.cls) (hn : (lg_sl av).length ≤ n)
    (body : ∀ (p : Program) (e : Env) (s : State) (m : MethodId) (args : Array Value) (below : List Frame) (meth : Method) (c : Code) (A : Nat → Prop), (∀ q, s.heap.size ≤ q → A q) → Cx p s m args meth c b n own D dA → meth.sig.returnType = some rt → J p l e rm s m args below meth c n D dA ad R A (QR D dA ad R A below args s K) F 0 (lv_args 0 av) []) : MR l y b n rt rm D dA ad R F av K := by
  intro sz
  refine Met.ofW (cc := b) (maxL := n) (ret := some rt) hy rfl ?_
  intro p e s m args below meth c s₁ B hml hv
  obtain ⟨rfl, hsz, hP, hK, hD0⟩ := hv
  have hts := atoms_spec (ws := Cond.code y b n (some rt) :: WB) B.pre
  subst hsz
  have hD := hD0.self (sz := s.heap.size)
  rw [lg_entry_eq]
  have hown : s.vm.findClass own = some m.cls := by rw [ho]; exact findClass_of_methodNamed B.named
  exact body p e s m _ below meth c (AN dA ad R F s.heap.size) (fun q h => Or.inr h) ⟨B.exec, B.bytes, hml, hown, fun w h => hts w (List.mem_cons_of_mem _ h), hK, B.notSynchronized⟩ B.returns s.heap [] _ hP hD va_S.rf (lv_entry av hn)
theorem r_aret (X : Cx p s m args meth c cc nL own D dA) {K : Nat → HF → Prop} {v : Nat} {nm : String} (hr : meth.sig.returnType = some (.object nm)) (hdg : decode cc pc = .ok (.areturn, 1)) (h : K v F) : J p l e Rm s m args below meth c nL D dA ad R A (QR D dA ad R A below args s K) F pc lv [.ref (ad v)] := fun H locs ls hP hD hS hl =>
  W.aret X.1 X.2.1 hr (Or.inl ⟨_, rfl⟩) (Or.inr ⟨_, rfl⟩) (fun t ht hW => ⟨⟨(v, F), ad v, rfl, h, rfl, by rw [ht]; exact hP, va_K.moved hW.alike X.2.2.2.2.2.1, hD⟩, hS.F ht⟩) hS.2.2 hdg X.2.2.2.2.2.2
theorem r_callRV (X : Cx p s m args meth c cc nL own D dA) (hA : ∀ q, s.heap.size ≤ q → A q) {y : MethodName} {b : ByteArray} {n t ci np idx N : Nat} {rt : FieldType} {rm : Room} {As : List Value} {K : Nat → HF → Prop} {C : String} {T : u_T} {ty : Nat → FieldType} {st0 : List Value} (hM : MR l y b n rt rm D dA ad R F (.ref (ad t) :: As) K) (hG : GoodIn WB (wsV own idx C y (Cond.code y b n (some rt) :: WB))) (hc : CLS ci C T N ty) (hk : OB R t ci) (hd : y.cls = C ∧ y.cls ≠ "java/lang/invoke/MethodHandle" ∧ y.cls ≠ "java/lang/invoke/VarHandle" ∧ (parseMethodDescriptor y.desc).map (fun d => d.parameters.length) = some np) (hnp : As.length = np) (hrc : rm.cells = 0) (hrs : rm.slots = 0) (hRm : rm.frames + 1 ≤ Rm.frames ∧ 8 + (n + 11) + rm.locals ≤ Rm.locals) (hst : st0 = As.reverse ++ .ref (ad t) :: st) (hcat : (st.map fun v => v.category).sum ≤ 8) (hdg : decode cc pc = .ok (.invokevirtual idx, 3)) (kk : ∀ (r : Nat) (F1 : HF), K r F1 → J p l e Rm s m args below meth c nL D dA ad R A Q F1 (pc + 3) lv (.ref (ad r) :: st)) : J p l e Rm s m args below meth c nL D dA ad R A Q F pc lv st0 := by
  intro H locs ls hP hD hS hl
  subst hst
  obtain ⟨q0, hq⟩ := List.getElem?_of_mem hk.2
  have hFc := AN_in hD hS hA
  refine va_callr (va_runV (As := As) (rest := st) ⟨X.1, X.2.1, X.2.2.1, X.2.2.2.1, X.2.2.2.2.1⟩ (hM H.size) (cwV np X.2.2.2.2.1 hG rfl hrc hrs hd hRm) ⟨PreN_blind, va_recv X.2.2.2.2.2.1 hP hc.1 ((wl_get hq).trans (by rw [cell_OB hk])), fun U hU hW => ⟨rfl, by rw [hU], by rw [hU]; exact hP, va_K.moved hW.alike X.2.2.2.2.2.1, hD.weaken (fun _ _ _ _ => trivial)⟩⟩ rfl hnp hl.1 rfl (lv_room hcat) hdg ⟨Nat.zero_le _, Nat.zero_le _⟩) hS (fun q _ h => hFc q h) hFc ?_
  intro u ra t' H1 locs1 ht hvm hw hB hz1 hk1 hS1
  rw [hB.1]
  refine kk u.1 u.2 hw H1 locs1 ls (by rw [← ht]; exact hB.2.1) (PostN_D hD hB.2.2.2 hFc) hS1 hl
end JJ
end
section
theorem w_329 : Cond.fieldLink RX6 10 "BirdBridge" "script" "LBirdBridge$Script;" ∈ WB := inWB 329 (by decide +kernel) (by decide +kernel)
theorem w_330 : Cond.fieldLink RX6 19 "BirdBridge" "laid" "LBirdBridge$Flock;" ∈ WB := inWB 330 (by decide +kernel) (by decide +kernel)
theorem w_331 : Cond.fieldLink RX6 23 "BirdBridge" "draft" "LBirdBridge$Flock;" ∈ WB := inWB 331 (by decide +kernel) (by decide +kernel)
theorem w_332 : Cond.fieldLink RX6 31 "BirdBridge" "night" "LBirdBridge$Night;" ∈ WB := inWB 332 (by decide +kernel) (by decide +kernel)
theorem w_333 : Cond.fieldLink RX6 38 "BirdBridge" "trial" "LBirdBridge$Bridge;" ∈ WB := inWB 333 (by decide +kernel) (by decide +kernel)
theorem w_334 : Cond.fieldLink RX6 47 "BirdBridge" "past" "LBirdBridge$Shelf;" ∈ WB := inWB 334 (by decide +kernel) (by decide +kernel)
theorem w_335 : Cond.fieldLink RX6 51 "BirdBridge" "kept" "LBirdBridge$Shelf;" ∈ WB := inWB 335 (by decide +kernel) (by decide +kernel)
theorem w_336 : Cond.fieldLink RX6 57 "BirdBridge" "search" "LBirdBridge$Search;" ∈ WB := inWB 336 (by decide +kernel) (by decide +kernel)
theorem w_337 : Cond.fieldLink RX6 61 "BirdBridge" "seenWhich" "[I" ∈ WB := inWB 337 (by decide +kernel) (by decide +kernel)
theorem w_338 : Cond.fieldLink RX6 65 "BirdBridge" "seenTired" "[I" ∈ WB := inWB 338 (by decide +kernel) (by decide +kernel)
theorem w_339 : Cond.fieldLink RX6 68 "BirdBridge" "seenSize" "I" ∈ WB := inWB 339 (by decide +kernel) (by decide +kernel)
theorem w_146 : Cond.fieldLink RX0 9 "BirdBridge$Bridge" "order" "[I" ∈ WB := inWB 146 (by decide +kernel) (by decide +kernel)
theorem w_147 : Cond.fieldLink RX0 15 "BirdBridge$Bridge" "tired" "[I" ∈ WB := inWB 147 (by decide +kernel) (by decide +kernel)
theorem w_148 : Cond.fieldLink RX0 18 "BirdBridge$Bridge" "borne" "[I" ∈ WB := inWB 148 (by decide +kernel) (by decide +kernel)
theorem w_149 : Cond.fieldLink RX0 21 "BirdBridge$Bridge" "size" "I" ∈ WB := inWB 149 (by decide +kernel) (by decide +kernel)
theorem w_145 : Cond.fieldLink RX0 25 "BirdBridge$Bridge" "flock" "LBirdBridge$Flock;" ∈ WB := inWB 145 (by decide +kernel) (by decide +kernel)
theorem w_102 : Cond.fieldLink RX1 9 "BirdBridge$Flock" "strengths" "[I" ∈ WB := inWB 102 (by decide +kernel) (by decide +kernel)
theorem w_103 : Cond.fieldLink RX1 15 "BirdBridge$Flock" "lengths" "[I" ∈ WB := inWB 103 (by decide +kernel) (by decide +kernel)
theorem w_104 : Cond.fieldLink RX1 18 "BirdBridge$Flock" "kinds" "[I" ∈ WB := inWB 104 (by decide +kernel) (by decide +kernel)
theorem w_105 : Cond.fieldLink RX1 21 "BirdBridge$Flock" "woods" "[I" ∈ WB := inWB 105 (by decide +kernel) (by decide +kernel)
theorem w_106 : Cond.fieldLink RX1 24 "BirdBridge$Flock" "winds" "[I" ∈ WB := inWB 106 (by decide +kernel) (by decide +kernel)
theorem w_107 : Cond.fieldLink RX1 30 "BirdBridge$Flock" "birds" "I" ∈ WB := inWB 107 (by decide +kernel) (by decide +kernel)
theorem w_108 : Cond.fieldLink RX1 34 "BirdBridge$Flock" "windCount" "I" ∈ WB := inWB 108 (by decide +kernel) (by decide +kernel)
theorem w_109 : Cond.fieldLink RX1 37 "BirdBridge$Flock" "width" "I" ∈ WB := inWB 109 (by decide +kernel) (by decide +kernel)
theorem w_110 : Cond.fieldLink RX1 40 "BirdBridge$Flock" "heaviness" "I" ∈ WB := inWB 110 (by decide +kernel) (by decide +kernel)
theorem w_111 : Cond.fieldLink RX1 43 "BirdBridge$Flock" "growth" "I" ∈ WB := inWB 111 (by decide +kernel) (by decide +kernel)
theorem w_163 : Cond.fieldLink RX2 9 "BirdBridge$Night" "minute" "I" ∈ WB := inWB 163 (by decide +kernel) (by decide +kernel)
theorem w_164 : Cond.fieldLink RX2 15 "BirdBridge$Night" "year" "I" ∈ WB := inWB 164 (by decide +kernel) (by decide +kernel)
theorem w_165 : Cond.fieldLink RX2 18 "BirdBridge$Night" "place" "I" ∈ WB := inWB 165 (by decide +kernel) (by decide +kernel)
theorem w_166 : Cond.fieldLink RX2 21 "BirdBridge$Night" "broken" "Z" ∈ WB := inWB 166 (by decide +kernel) (by decide +kernel)
theorem w_161 : Cond.fieldLink RX2 25 "BirdBridge$Night" "flock" "LBirdBridge$Flock;" ∈ WB := inWB 161 (by decide +kernel) (by decide +kernel)
theorem w_162 : Cond.fieldLink RX2 34 "BirdBridge$Night" "bridge" "LBirdBridge$Bridge;" ∈ WB := inWB 162 (by decide +kernel) (by decide +kernel)
theorem w_80 : Cond.fieldLink RX3 9 "BirdBridge$Script" "letters" "[C" ∈ WB := inWB 80 (by decide +kernel) (by decide +kernel)
theorem w_81 : Cond.fieldLink RX3 15 "BirdBridge$Script" "numbers" "[I" ∈ WB := inWB 81 (by decide +kernel) (by decide +kernel)
theorem w_82 : Cond.fieldLink RX3 19 "BirdBridge$Script" "length" "I" ∈ WB := inWB 82 (by decide +kernel) (by decide +kernel)
theorem w_211 : Cond.fieldLink RX4 9 "BirdBridge$Search" "found" "[I" ∈ WB := inWB 211 (by decide +kernel) (by decide +kernel)
theorem w_212 : Cond.fieldLink RX4 15 "BirdBridge$Search" "foundSize" "I" ∈ WB := inWB 212 (by decide +kernel) (by decide +kernel)
theorem w_213 : Cond.fieldLink RX4 19 "BirdBridge$Search" "foundWeight" "I" ∈ WB := inWB 213 (by decide +kernel) (by decide +kernel)
theorem w_209 : Cond.fieldLink RX4 22 "BirdBridge$Search" "flock" "LBirdBridge$Flock;" ∈ WB := inWB 209 (by decide +kernel) (by decide +kernel)
theorem w_210 : Cond.fieldLink RX4 31 "BirdBridge$Search" "tried" "LBirdBridge$Bridge;" ∈ WB := inWB 210 (by decide +kernel) (by decide +kernel)
theorem w_195 : Cond.fieldLink RX5 7 "BirdBridge$Shelf" "size" "I" ∈ WB := inWB 195 (by decide +kernel) (by decide +kernel)
theorem w_194 : Cond.fieldLink RX5 21 "BirdBridge$Shelf" "nights" "[LBirdBridge$Night;" ∈ WB := inWB 194 (by decide +kernel) (by decide +kernel)
theorem w_815 : Cond.fieldLink RX7 7 "BirdBridgeModel" "text" "[I" ∈ WB := inWB 815 (by decide +kernel) (by decide +kernel)
theorem w_817 : Cond.fieldLink RX7 13 "BirdBridgeModel" "numbers" "[I" ∈ WB := inWB 817 (by decide +kernel) (by decide +kernel)
theorem w_822 : Cond.fieldLink RX7 16 "BirdBridgeModel" "read" "[I" ∈ WB := inWB 822 (by decide +kernel) (by decide +kernel)
theorem w_823 : Cond.fieldLink RX7 19 "BirdBridgeModel" "readWind" "[I" ∈ WB := inWB 823 (by decide +kernel) (by decide +kernel)
theorem w_827 : Cond.fieldLink RX7 22 "BirdBridgeModel" "birds" "I" ∈ WB := inWB 827 (by decide +kernel) (by decide +kernel)
theorem w_828 : Cond.fieldLink RX7 26 "BirdBridgeModel" "bird" "[I" ∈ WB := inWB 828 (by decide +kernel) (by decide +kernel)
theorem w_829 : Cond.fieldLink RX7 29 "BirdBridgeModel" "winds" "I" ∈ WB := inWB 829 (by decide +kernel) (by decide +kernel)
theorem w_830 : Cond.fieldLink RX7 32 "BirdBridgeModel" "wind" "[I" ∈ WB := inWB 830 (by decide +kernel) (by decide +kernel)
theorem w_831 : Cond.fieldLink RX7 35 "BirdBridgeModel" "broad" "I" ∈ WB := inWB 831 (by decide +kernel) (by decide +kernel)
theorem w_832 : Cond.fieldLink RX7 38 "BirdBridgeModel" "heavy" "I" ∈ WB := inWB 832 (by decide +kernel) (by decide +kernel)
theorem w_833 : Cond.fieldLink RX7 41 "BirdBridgeModel" "more" "I" ∈ WB := inWB 833 (by decide +kernel) (by decide +kernel)
theorem w_834 : Cond.fieldLink RX7 44 "BirdBridgeModel" "now" "[I" ∈ WB := inWB 834 (by decide +kernel) (by decide +kernel)
theorem w_835 : Cond.fieldLink RX7 47 "BirdBridgeModel" "tried" "[I" ∈ WB := inWB 835 (by decide +kernel) (by decide +kernel)
theorem w_836 : Cond.fieldLink RX7 50 "BirdBridgeModel" "backOf" "[I" ∈ WB := inWB 836 (by decide +kernel) (by decide +kernel)
theorem w_838 : Cond.fieldLink RX7 53 "BirdBridgeModel" "image" "[I" ∈ WB := inWB 838 (by decide +kernel) (by decide +kernel)
theorem w_840 : Cond.fieldLink RX7 56 "BirdBridgeModel" "sight" "[I" ∈ WB := inWB 840 (by decide +kernel) (by decide +kernel)
theorem w_842 : Cond.fieldLink RX7 59 "BirdBridgeModel" "found" "[I" ∈ WB := inWB 842 (by decide +kernel) (by decide +kernel)
theorem w_843 : Cond.fieldLink RX7 62 "BirdBridgeModel" "loads" "[I" ∈ WB := inWB 843 (by decide +kernel) (by decide +kernel)
theorem w_845 : Cond.fieldLink RX7 65 "BirdBridgeModel" "row" "[I" ∈ WB := inWB 845 (by decide +kernel) (by decide +kernel)
theorem w_846 : Cond.fieldLink RX7 68 "BirdBridgeModel" "next" "[I" ∈ WB := inWB 846 (by decide +kernel) (by decide +kernel)
theorem w_837 : Cond.fieldLink RX7 78 "BirdBridgeModel" "backs" "I" ∈ WB := inWB 837 (by decide +kernel) (by decide +kernel)
theorem w_839 : Cond.fieldLink RX7 81 "BirdBridgeModel" "keptMany" "I" ∈ WB := inWB 839 (by decide +kernel) (by decide +kernel)
theorem w_841 : Cond.fieldLink RX7 84 "BirdBridgeModel" "sights" "I" ∈ WB := inWB 841 (by decide +kernel) (by decide +kernel)
theorem w_814 : Cond.fieldLink RX7 91 "BirdBridgeModel" "letters" "I" ∈ WB := inWB 814 (by decide +kernel) (by decide +kernel)
theorem w_818 : Cond.fieldLink RX7 94 "BirdBridgeModel" "numberMany" "I" ∈ WB := inWB 818 (by decide +kernel) (by decide +kernel)
theorem w_816 : Cond.fieldLink RX7 97 "BirdBridgeModel" "position" "I" ∈ WB := inWB 816 (by decide +kernel) (by decide +kernel)
theorem w_820 : Cond.fieldLink RX7 104 "BirdBridgeModel" "readBirds" "I" ∈ WB := inWB 820 (by decide +kernel) (by decide +kernel)
theorem w_821 : Cond.fieldLink RX7 111 "BirdBridgeModel" "readWinds" "I" ∈ WB := inWB 821 (by decide +kernel) (by decide +kernel)
theorem w_824 : Cond.fieldLink RX7 114 "BirdBridgeModel" "readBroad" "I" ∈ WB := inWB 824 (by decide +kernel) (by decide +kernel)
theorem w_825 : Cond.fieldLink RX7 117 "BirdBridgeModel" "readHeavy" "I" ∈ WB := inWB 825 (by decide +kernel) (by decide +kernel)
theorem w_826 : Cond.fieldLink RX7 120 "BirdBridgeModel" "readMore" "I" ∈ WB := inWB 826 (by decide +kernel) (by decide +kernel)
theorem w_819 : Cond.fieldLink RX7 123 "BirdBridgeModel" "faultAt" "I" ∈ WB := inWB 819 (by decide +kernel) (by decide +kernel)
theorem w_844 : Cond.fieldLink RX7 210 "BirdBridgeModel" "foundMany" "I" ∈ WB := inWB 844 (by decide +kernel) (by decide +kernel)
theorem w_274 : Cond.methodLink RX6 84 yX3_append ∈ WB := inWB 274 (by decide +kernel) (by decide +kernel)
theorem w_275 : Cond.instanceMethod yX3_append ∈ WB := inWB 275 (by decide +kernel) (by decide +kernel)
theorem w_276 : Cond.selects RX3 yX3_append yX3_append ∈ WB := inWB 276 (by decide +kernel) (by decide +kernel)
theorem w_53 : Cond.initialized RX3 ∈ WB := inWB 53 (by decide +kernel) (by decide +kernel)
theorem w_277 : Cond.code yX3_append cX3_append 2 (some .boolean) ∈ WB := inWB 277 (by decide +kernel) (by decide +kernel)
theorem w_278 : Cond.methodLink RX6 88 yX3_readInto ∈ WB := inWB 278 (by decide +kernel) (by decide +kernel)
theorem w_279 : Cond.instanceMethod yX3_readInto ∈ WB := inWB 279 (by decide +kernel) (by decide +kernel)
theorem w_280 : Cond.selects RX3 yX3_readInto yX3_readInto ∈ WB := inWB 280 (by decide +kernel) (by decide +kernel)
theorem w_281 : Cond.code yX3_readInto cX3_readInto 4 (some .int) ∈ WB := inWB 281 (by decide +kernel) (by decide +kernel)
theorem w_325 : Cond.methodLink RX6 92 yX3_clear ∈ WB := inWB 325 (by decide +kernel) (by decide +kernel)
theorem w_326 : Cond.instanceMethod yX3_clear ∈ WB := inWB 326 (by decide +kernel) (by decide +kernel)
theorem w_327 : Cond.selects RX3 yX3_clear yX3_clear ∈ WB := inWB 327 (by decide +kernel) (by decide +kernel)
theorem w_328 : Cond.code yX3_clear cX3_clear 1 none ∈ WB := inWB 328 (by decide +kernel) (by decide +kernel)
theorem w_368 : Cond.methodLink RX6 95 yX3_length ∈ WB := inWB 368 (by decide +kernel) (by decide +kernel)
theorem w_369 : Cond.instanceMethod yX3_length ∈ WB := inWB 369 (by decide +kernel) (by decide +kernel)
theorem w_370 : Cond.selects RX3 yX3_length yX3_length ∈ WB := inWB 370 (by decide +kernel) (by decide +kernel)
theorem w_371 : Cond.code yX3_length cX3_length 1 (some .int) ∈ WB := inWB 371 (by decide +kernel) (by decide +kernel)
theorem w_384 : Cond.methodLink RX6 96 yX1_birds ∈ WB := inWB 384 (by decide +kernel) (by decide +kernel)
theorem w_385 : Cond.instanceMethod yX1_birds ∈ WB := inWB 385 (by decide +kernel) (by decide +kernel)
theorem w_386 : Cond.selects RX1 yX1_birds yX1_birds ∈ WB := inWB 386 (by decide +kernel) (by decide +kernel)
theorem w_54 : Cond.initialized RX1 ∈ WB := inWB 54 (by decide +kernel) (by decide +kernel)
theorem w_387 : Cond.code yX1_birds cX1_birds 1 (some .int) ∈ WB := inWB 387 (by decide +kernel) (by decide +kernel)
theorem w_388 : Cond.methodLink RX6 99 yX1_copyFrom ∈ WB := inWB 388 (by decide +kernel) (by decide +kernel)
theorem w_389 : Cond.instanceMethod yX1_copyFrom ∈ WB := inWB 389 (by decide +kernel) (by decide +kernel)
theorem w_390 : Cond.selects RX1 yX1_copyFrom yX1_copyFrom ∈ WB := inWB 390 (by decide +kernel) (by decide +kernel)
theorem w_391 : Cond.code yX1_copyFrom cX1_copyFrom 2 none ∈ WB := inWB 391 (by decide +kernel) (by decide +kernel)
theorem w_395 : Cond.methodLink RX6 102 yX2_begin ∈ WB := inWB 395 (by decide +kernel) (by decide +kernel)
theorem w_396 : Cond.instanceMethod yX2_begin ∈ WB := inWB 396 (by decide +kernel) (by decide +kernel)
theorem w_397 : Cond.selects RX2 yX2_begin yX2_begin ∈ WB := inWB 397 (by decide +kernel) (by decide +kernel)
theorem w_55 : Cond.initialized RX2 ∈ WB := inWB 55 (by decide +kernel) (by decide +kernel)
theorem w_398 : Cond.code yX2_begin cX2_begin 1 none ∈ WB := inWB 398 (by decide +kernel) (by decide +kernel)
theorem w_407 : Cond.methodLink RX6 105 yX5_clear ∈ WB := inWB 407 (by decide +kernel) (by decide +kernel)
theorem w_408 : Cond.instanceMethod yX5_clear ∈ WB := inWB 408 (by decide +kernel) (by decide +kernel)
theorem w_409 : Cond.selects RX5 yX5_clear yX5_clear ∈ WB := inWB 409 (by decide +kernel) (by decide +kernel)
theorem w_57 : Cond.initialized RX5 ∈ WB := inWB 57 (by decide +kernel) (by decide +kernel)
theorem w_410 : Cond.code yX5_clear cX5_clear 1 none ∈ WB := inWB 410 (by decide +kernel) (by decide +kernel)
theorem w_411 : Cond.methodLink RX6 106 yX4_begin ∈ WB := inWB 411 (by decide +kernel) (by decide +kernel)
theorem w_412 : Cond.instanceMethod yX4_begin ∈ WB := inWB 412 (by decide +kernel) (by decide +kernel)
theorem w_413 : Cond.selects RX4 yX4_begin yX4_begin ∈ WB := inWB 413 (by decide +kernel) (by decide +kernel)
theorem w_59 : Cond.initialized RX4 ∈ WB := inWB 59 (by decide +kernel) (by decide +kernel)
theorem w_414 : Cond.code yX4_begin cX4_begin 1 none ∈ WB := inWB 414 (by decide +kernel) (by decide +kernel)
theorem w_419 : Cond.methodLink RX6 107 yX6_isBird ∈ WB := inWB 419 (by decide +kernel) (by decide +kernel)
theorem w_421 : Cond.instanceMethod yX6_isBird ∈ WB := inWB 421 (by decide +kernel) (by decide +kernel)
theorem w_8 : Cond.selects RX6 yX6_isBird yX6_isBird ∈ WB := inWB 8 (by decide +kernel) (by decide +kernel)
theorem w_52 : Cond.initialized RX6 ∈ WB := inWB 52 (by decide +kernel) (by decide +kernel)
theorem w_422 : Cond.code yX6_isBird cX6_isBird 2 (some .boolean) ∈ WB := inWB 422 (by decide +kernel) (by decide +kernel)
theorem w_423 : Cond.methodLink RX6 110 yX1_strengthOf ∈ WB := inWB 423 (by decide +kernel) (by decide +kernel)
theorem w_424 : Cond.instanceMethod yX1_strengthOf ∈ WB := inWB 424 (by decide +kernel) (by decide +kernel)
theorem w_425 : Cond.selects RX1 yX1_strengthOf yX1_strengthOf ∈ WB := inWB 425 (by decide +kernel) (by decide +kernel)
theorem w_426 : Cond.code yX1_strengthOf cX1_strengthOf 2 (some .int) ∈ WB := inWB 426 (by decide +kernel) (by decide +kernel)
theorem w_427 : Cond.methodLink RX6 114 yX1_lengthOf ∈ WB := inWB 427 (by decide +kernel) (by decide +kernel)
theorem w_428 : Cond.instanceMethod yX1_lengthOf ∈ WB := inWB 428 (by decide +kernel) (by decide +kernel)
theorem w_429 : Cond.selects RX1 yX1_lengthOf yX1_lengthOf ∈ WB := inWB 429 (by decide +kernel) (by decide +kernel)
theorem w_430 : Cond.code yX1_lengthOf cX1_lengthOf 2 (some .int) ∈ WB := inWB 430 (by decide +kernel) (by decide +kernel)
theorem w_431 : Cond.methodLink RX6 117 yX1_kindOf ∈ WB := inWB 431 (by decide +kernel) (by decide +kernel)
theorem w_432 : Cond.instanceMethod yX1_kindOf ∈ WB := inWB 432 (by decide +kernel) (by decide +kernel)
theorem w_433 : Cond.selects RX1 yX1_kindOf yX1_kindOf ∈ WB := inWB 433 (by decide +kernel) (by decide +kernel)
theorem w_434 : Cond.code yX1_kindOf cX1_kindOf 2 (some .int) ∈ WB := inWB 434 (by decide +kernel) (by decide +kernel)
theorem w_435 : Cond.methodLink RX6 120 yX1_woodOf ∈ WB := inWB 435 (by decide +kernel) (by decide +kernel)
theorem w_436 : Cond.instanceMethod yX1_woodOf ∈ WB := inWB 436 (by decide +kernel) (by decide +kernel)
theorem w_437 : Cond.selects RX1 yX1_woodOf yX1_woodOf ∈ WB := inWB 437 (by decide +kernel) (by decide +kernel)
theorem w_438 : Cond.code yX1_woodOf cX1_woodOf 2 (some .int) ∈ WB := inWB 438 (by decide +kernel) (by decide +kernel)
theorem w_439 : Cond.methodLink RX6 123 yX2_bridge ∈ WB := inWB 439 (by decide +kernel) (by decide +kernel)
theorem w_440 : Cond.instanceMethod yX2_bridge ∈ WB := inWB 440 (by decide +kernel) (by decide +kernel)
theorem w_441 : Cond.selects RX2 yX2_bridge yX2_bridge ∈ WB := inWB 441 (by decide +kernel) (by decide +kernel)
theorem w_442 : Cond.code yX2_bridge cX2_bridge 1 (some (.object "BirdBridge$Bridge")) ∈ WB := inWB 442 (by decide +kernel) (by decide +kernel)
theorem w_443 : Cond.methodLink RX6 127 yX0_tiredOf ∈ WB := inWB 443 (by decide +kernel) (by decide +kernel)
theorem w_444 : Cond.instanceMethod yX0_tiredOf ∈ WB := inWB 444 (by decide +kernel) (by decide +kernel)
theorem w_445 : Cond.selects RX0 yX0_tiredOf yX0_tiredOf ∈ WB := inWB 445 (by decide +kernel) (by decide +kernel)
theorem w_56 : Cond.initialized RX0 ∈ WB := inWB 56 (by decide +kernel) (by decide +kernel)
theorem w_446 : Cond.code yX0_tiredOf cX0_tiredOf 2 (some .int) ∈ WB := inWB 446 (by decide +kernel) (by decide +kernel)
theorem w_447 : Cond.methodLink RX6 130 yX0_positionOf ∈ WB := inWB 447 (by decide +kernel) (by decide +kernel)
theorem w_448 : Cond.instanceMethod yX0_positionOf ∈ WB := inWB 448 (by decide +kernel) (by decide +kernel)
theorem w_449 : Cond.selects RX0 yX0_positionOf yX0_positionOf ∈ WB := inWB 449 (by decide +kernel) (by decide +kernel)
theorem w_450 : Cond.code yX0_positionOf cX0_positionOf 3 (some .int) ∈ WB := inWB 450 (by decide +kernel) (by decide +kernel)
theorem w_455 : Cond.methodLink RX6 133 yX1_windIn ∈ WB := inWB 455 (by decide +kernel) (by decide +kernel)
theorem w_456 : Cond.instanceMethod yX1_windIn ∈ WB := inWB 456 (by decide +kernel) (by decide +kernel)
theorem w_457 : Cond.selects RX1 yX1_windIn yX1_windIn ∈ WB := inWB 457 (by decide +kernel) (by decide +kernel)
theorem w_458 : Cond.code yX1_windIn cX1_windIn 2 (some .int) ∈ WB := inWB 458 (by decide +kernel) (by decide +kernel)
theorem w_463 : Cond.methodLink RX6 136 yX0_size ∈ WB := inWB 463 (by decide +kernel) (by decide +kernel)
theorem w_464 : Cond.instanceMethod yX0_size ∈ WB := inWB 464 (by decide +kernel) (by decide +kernel)
theorem w_465 : Cond.selects RX0 yX0_size yX0_size ∈ WB := inWB 465 (by decide +kernel) (by decide +kernel)
theorem w_466 : Cond.code yX0_size cX0_size 1 (some .int) ∈ WB := inWB 466 (by decide +kernel) (by decide +kernel)
theorem w_467 : Cond.methodLink RX6 139 yX0_birdAt ∈ WB := inWB 467 (by decide +kernel) (by decide +kernel)
theorem w_468 : Cond.instanceMethod yX0_birdAt ∈ WB := inWB 468 (by decide +kernel) (by decide +kernel)
theorem w_469 : Cond.selects RX0 yX0_birdAt yX0_birdAt ∈ WB := inWB 469 (by decide +kernel) (by decide +kernel)
theorem w_470 : Cond.code yX0_birdAt cX0_birdAt 2 (some .int) ∈ WB := inWB 470 (by decide +kernel) (by decide +kernel)
theorem w_471 : Cond.methodLink RX6 142 yX0_firstPlaceOf ∈ WB := inWB 471 (by decide +kernel) (by decide +kernel)
theorem w_472 : Cond.instanceMethod yX0_firstPlaceOf ∈ WB := inWB 472 (by decide +kernel) (by decide +kernel)
theorem w_473 : Cond.selects RX0 yX0_firstPlaceOf yX0_firstPlaceOf ∈ WB := inWB 473 (by decide +kernel) (by decide +kernel)
theorem w_474 : Cond.code yX0_firstPlaceOf cX0_firstPlaceOf 4 (some .int) ∈ WB := inWB 474 (by decide +kernel) (by decide +kernel)
theorem w_476 : Cond.methodLink RX6 145 yX0_powerAt ∈ WB := inWB 476 (by decide +kernel) (by decide +kernel)
theorem w_477 : Cond.instanceMethod yX0_powerAt ∈ WB := inWB 477 (by decide +kernel) (by decide +kernel)
theorem w_478 : Cond.selects RX0 yX0_powerAt yX0_powerAt ∈ WB := inWB 478 (by decide +kernel) (by decide +kernel)
theorem w_479 : Cond.code yX0_powerAt cX0_powerAt 5 (some .int) ∈ WB := inWB 479 (by decide +kernel) (by decide +kernel)
theorem w_488 : Cond.methodLink RX6 148 yX6_loadNow ∈ WB := inWB 488 (by decide +kernel) (by decide +kernel)
theorem w_490 : Cond.instanceMethod yX6_loadNow ∈ WB := inWB 490 (by decide +kernel) (by decide +kernel)
theorem w_9 : Cond.selects RX6 yX6_loadNow yX6_loadNow ∈ WB := inWB 9 (by decide +kernel) (by decide +kernel)
theorem w_491 : Cond.code yX6_loadNow cX6_loadNow 2 (some .int) ∈ WB := inWB 491 (by decide +kernel) (by decide +kernel)
theorem w_544 : Cond.methodLink RX6 151 yX2_isFixed ∈ WB := inWB 544 (by decide +kernel) (by decide +kernel)
theorem w_545 : Cond.instanceMethod yX2_isFixed ∈ WB := inWB 545 (by decide +kernel) (by decide +kernel)
theorem w_546 : Cond.selects RX2 yX2_isFixed yX2_isFixed ∈ WB := inWB 546 (by decide +kernel) (by decide +kernel)
theorem w_547 : Cond.code yX2_isFixed cX2_isFixed 1 (some .boolean) ∈ WB := inWB 547 (by decide +kernel) (by decide +kernel)
theorem w_549 : Cond.methodLink RX6 155 yX0_mayJoin ∈ WB := inWB 549 (by decide +kernel) (by decide +kernel)
theorem w_550 : Cond.instanceMethod yX0_mayJoin ∈ WB := inWB 550 (by decide +kernel) (by decide +kernel)
theorem w_551 : Cond.selects RX0 yX0_mayJoin yX0_mayJoin ∈ WB := inWB 551 (by decide +kernel) (by decide +kernel)
theorem w_552 : Cond.code yX0_mayJoin cX0_mayJoin 3 (some .boolean) ∈ WB := inWB 552 (by decide +kernel) (by decide +kernel)
theorem w_564 : Cond.methodLink RX6 158 yX5_put ∈ WB := inWB 564 (by decide +kernel) (by decide +kernel)
theorem w_565 : Cond.instanceMethod yX5_put ∈ WB := inWB 565 (by decide +kernel) (by decide +kernel)
theorem w_566 : Cond.selects RX5 yX5_put yX5_put ∈ WB := inWB 566 (by decide +kernel) (by decide +kernel)
theorem w_567 : Cond.code yX5_put cX5_put 2 none ∈ WB := inWB 567 (by decide +kernel) (by decide +kernel)
theorem w_581 : Cond.methodLink RX6 162 yX0_append ∈ WB := inWB 581 (by decide +kernel) (by decide +kernel)
theorem w_582 : Cond.instanceMethod yX0_append ∈ WB := inWB 582 (by decide +kernel) (by decide +kernel)
theorem w_583 : Cond.selects RX0 yX0_append yX0_append ∈ WB := inWB 583 (by decide +kernel) (by decide +kernel)
theorem w_584 : Cond.code yX0_append cX0_append 2 none ∈ WB := inWB 584 (by decide +kernel) (by decide +kernel)
theorem w_589 : Cond.methodLink RX6 165 yX0_dropLast ∈ WB := inWB 589 (by decide +kernel) (by decide +kernel)
theorem w_590 : Cond.instanceMethod yX0_dropLast ∈ WB := inWB 590 (by decide +kernel) (by decide +kernel)
theorem w_591 : Cond.selects RX0 yX0_dropLast yX0_dropLast ∈ WB := inWB 591 (by decide +kernel) (by decide +kernel)
theorem w_592 : Cond.code yX0_dropLast cX0_dropLast 1 none ∈ WB := inWB 592 (by decide +kernel) (by decide +kernel)
theorem w_597 : Cond.methodLink RX6 168 yX2_isBroken ∈ WB := inWB 597 (by decide +kernel) (by decide +kernel)
theorem w_598 : Cond.instanceMethod yX2_isBroken ∈ WB := inWB 598 (by decide +kernel) (by decide +kernel)
theorem w_599 : Cond.selects RX2 yX2_isBroken yX2_isBroken ∈ WB := inWB 599 (by decide +kernel) (by decide +kernel)
theorem w_600 : Cond.code yX2_isBroken cX2_isBroken 1 (some .boolean) ∈ WB := inWB 600 (by decide +kernel) (by decide +kernel)
theorem w_601 : Cond.methodLink RX6 171 yX0_isWhole ∈ WB := inWB 601 (by decide +kernel) (by decide +kernel)
theorem w_554 : Cond.instanceMethod yX0_isWhole ∈ WB := inWB 554 (by decide +kernel) (by decide +kernel)
theorem w_555 : Cond.selects RX0 yX0_isWhole yX0_isWhole ∈ WB := inWB 555 (by decide +kernel) (by decide +kernel)
theorem w_556 : Cond.code yX0_isWhole cX0_isWhole 1 (some .boolean) ∈ WB := inWB 556 (by decide +kernel) (by decide +kernel)
theorem w_509 : Cond.methodLink RX6 174 yX2_place ∈ WB := inWB 509 (by decide +kernel) (by decide +kernel)
theorem w_510 : Cond.instanceMethod yX2_place ∈ WB := inWB 510 (by decide +kernel) (by decide +kernel)
theorem w_511 : Cond.selects RX2 yX2_place yX2_place ∈ WB := inWB 511 (by decide +kernel) (by decide +kernel)
theorem w_512 : Cond.code yX2_place cX2_place 1 (some .int) ∈ WB := inWB 512 (by decide +kernel) (by decide +kernel)
theorem w_602 : Cond.methodLink RX6 177 yX1_width ∈ WB := inWB 602 (by decide +kernel) (by decide +kernel)
theorem w_506 : Cond.instanceMethod yX1_width ∈ WB := inWB 506 (by decide +kernel) (by decide +kernel)
theorem w_507 : Cond.selects RX1 yX1_width yX1_width ∈ WB := inWB 507 (by decide +kernel) (by decide +kernel)
theorem w_508 : Cond.code yX1_width cX1_width 1 (some .int) ∈ WB := inWB 508 (by decide +kernel) (by decide +kernel)
theorem w_603 : Cond.methodLink RX6 180 yX2_passMinuteAt ∈ WB := inWB 603 (by decide +kernel) (by decide +kernel)
theorem w_604 : Cond.instanceMethod yX2_passMinuteAt ∈ WB := inWB 604 (by decide +kernel) (by decide +kernel)
theorem w_605 : Cond.selects RX2 yX2_passMinuteAt yX2_passMinuteAt ∈ WB := inWB 605 (by decide +kernel) (by decide +kernel)
theorem w_606 : Cond.code yX2_passMinuteAt cX2_passMinuteAt 2 (some .boolean) ∈ WB := inWB 606 (by decide +kernel) (by decide +kernel)
theorem w_501 : Cond.methodLink RX6 183 yX2_isOnBridge ∈ WB := inWB 501 (by decide +kernel) (by decide +kernel)
theorem w_502 : Cond.instanceMethod yX2_isOnBridge ∈ WB := inWB 502 (by decide +kernel) (by decide +kernel)
theorem w_503 : Cond.selects RX2 yX2_isOnBridge yX2_isOnBridge ∈ WB := inWB 503 (by decide +kernel) (by decide +kernel)
theorem w_504 : Cond.code yX2_isOnBridge cX2_isOnBridge 1 (some .boolean) ∈ WB := inWB 504 (by decide +kernel) (by decide +kernel)
theorem w_632 : Cond.methodLink RX6 186 yX2_setYear ∈ WB := inWB 632 (by decide +kernel) (by decide +kernel)
theorem w_633 : Cond.instanceMethod yX2_setYear ∈ WB := inWB 633 (by decide +kernel) (by decide +kernel)
theorem w_634 : Cond.selects RX2 yX2_setYear yX2_setYear ∈ WB := inWB 634 (by decide +kernel) (by decide +kernel)
theorem w_635 : Cond.code yX2_setYear cX2_setYear 2 none ∈ WB := inWB 635 (by decide +kernel) (by decide +kernel)
theorem w_513 : Cond.methodLink RX6 189 yX2_weight ∈ WB := inWB 513 (by decide +kernel) (by decide +kernel)
theorem w_514 : Cond.instanceMethod yX2_weight ∈ WB := inWB 514 (by decide +kernel) (by decide +kernel)
theorem w_515 : Cond.selects RX2 yX2_weight yX2_weight ∈ WB := inWB 515 (by decide +kernel) (by decide +kernel)
theorem w_516 : Cond.code yX2_weight cX2_weight 1 (some .int) ∈ WB := inWB 516 (by decide +kernel) (by decide +kernel)
theorem w_640 : Cond.methodLink RX6 192 yX5_takeInto ∈ WB := inWB 640 (by decide +kernel) (by decide +kernel)
theorem w_641 : Cond.instanceMethod yX5_takeInto ∈ WB := inWB 641 (by decide +kernel) (by decide +kernel)
theorem w_642 : Cond.selects RX5 yX5_takeInto yX5_takeInto ∈ WB := inWB 642 (by decide +kernel) (by decide +kernel)
theorem w_643 : Cond.code yX5_takeInto cX5_takeInto 2 (some .boolean) ∈ WB := inWB 643 (by decide +kernel) (by decide +kernel)
theorem w_644 : Cond.methodLink RX6 196 yX5_size ∈ WB := inWB 644 (by decide +kernel) (by decide +kernel)
theorem w_645 : Cond.instanceMethod yX5_size ∈ WB := inWB 645 (by decide +kernel) (by decide +kernel)
theorem w_646 : Cond.selects RX5 yX5_size yX5_size ∈ WB := inWB 646 (by decide +kernel) (by decide +kernel)
theorem w_647 : Cond.code yX5_size cX5_size 1 (some .int) ∈ WB := inWB 647 (by decide +kernel) (by decide +kernel)
theorem w_492 : Cond.methodLink RX6 197 yX0_copyFrom ∈ WB := inWB 492 (by decide +kernel) (by decide +kernel)
theorem w_493 : Cond.instanceMethod yX0_copyFrom ∈ WB := inWB 493 (by decide +kernel) (by decide +kernel)
theorem w_494 : Cond.selects RX0 yX0_copyFrom yX0_copyFrom ∈ WB := inWB 494 (by decide +kernel) (by decide +kernel)
theorem w_495 : Cond.code yX0_copyFrom cX0_copyFrom 2 none ∈ WB := inWB 495 (by decide +kernel) (by decide +kernel)
theorem w_521 : Cond.methodLink RX6 200 yX2_minute ∈ WB := inWB 521 (by decide +kernel) (by decide +kernel)
theorem w_522 : Cond.instanceMethod yX2_minute ∈ WB := inWB 522 (by decide +kernel) (by decide +kernel)
theorem w_523 : Cond.selects RX2 yX2_minute yX2_minute ∈ WB := inWB 523 (by decide +kernel) (by decide +kernel)
theorem w_524 : Cond.code yX2_minute cX2_minute 1 (some .int) ∈ WB := inWB 524 (by decide +kernel) (by decide +kernel)
theorem w_652 : Cond.methodLink RX6 203 yX0_walk ∈ WB := inWB 652 (by decide +kernel) (by decide +kernel)
theorem w_653 : Cond.instanceMethod yX0_walk ∈ WB := inWB 653 (by decide +kernel) (by decide +kernel)
theorem w_654 : Cond.selects RX0 yX0_walk yX0_walk ∈ WB := inWB 654 (by decide +kernel) (by decide +kernel)
theorem w_655 : Cond.code yX0_walk cX0_walk 6 (some .int) ∈ WB := inWB 655 (by decide +kernel) (by decide +kernel)
theorem w_663 : Cond.methodLink RX6 207 yX4_find ∈ WB := inWB 663 (by decide +kernel) (by decide +kernel)
theorem w_664 : Cond.instanceMethod yX4_find ∈ WB := inWB 664 (by decide +kernel) (by decide +kernel)
theorem w_665 : Cond.selects RX4 yX4_find yX4_find ∈ WB := inWB 665 (by decide +kernel) (by decide +kernel)
theorem w_666 : Cond.code yX4_find cX4_find 2 none ∈ WB := inWB 666 (by decide +kernel) (by decide +kernel)
theorem w_693 : Cond.methodLink RX6 210 yX4_foundSize ∈ WB := inWB 693 (by decide +kernel) (by decide +kernel)
theorem w_694 : Cond.instanceMethod yX4_foundSize ∈ WB := inWB 694 (by decide +kernel) (by decide +kernel)
theorem w_695 : Cond.selects RX4 yX4_foundSize yX4_foundSize ∈ WB := inWB 695 (by decide +kernel) (by decide +kernel)
theorem w_696 : Cond.code yX4_foundSize cX4_foundSize 1 (some .int) ∈ WB := inWB 696 (by decide +kernel) (by decide +kernel)
theorem w_697 : Cond.methodLink RX6 213 yX4_foundAt ∈ WB := inWB 697 (by decide +kernel) (by decide +kernel)
theorem w_698 : Cond.instanceMethod yX4_foundAt ∈ WB := inWB 698 (by decide +kernel) (by decide +kernel)
theorem w_699 : Cond.selects RX4 yX4_foundAt yX4_foundAt ∈ WB := inWB 699 (by decide +kernel) (by decide +kernel)
theorem w_700 : Cond.code yX4_foundAt cX4_foundAt 2 (some .int) ∈ WB := inWB 700 (by decide +kernel) (by decide +kernel)
theorem w_705 : Cond.methodLink RX6 216 yX6_mends ∈ WB := inWB 705 (by decide +kernel) (by decide +kernel)
theorem w_707 : Cond.instanceMethod yX6_mends ∈ WB := inWB 707 (by decide +kernel) (by decide +kernel)
theorem w_14 : Cond.selects RX6 yX6_mends yX6_mends ∈ WB := inWB 14 (by decide +kernel) (by decide +kernel)
theorem w_708 : Cond.code yX6_mends cX6_mends 4 (some .boolean) ∈ WB := inWB 708 (by decide +kernel) (by decide +kernel)
theorem w_717 : Cond.methodLink RX6 220 yX6_callMinute ∈ WB := inWB 717 (by decide +kernel) (by decide +kernel)
theorem w_719 : Cond.instanceMethod yX6_callMinute ∈ WB := inWB 719 (by decide +kernel) (by decide +kernel)
theorem w_15 : Cond.selects RX6 yX6_callMinute yX6_callMinute ∈ WB := inWB 15 (by decide +kernel) (by decide +kernel)
theorem w_720 : Cond.code yX6_callMinute cX6_callMinute 8 (some .int) ∈ WB := inWB 720 (by decide +kernel) (by decide +kernel)
theorem w_721 : Cond.methodLink RX6 223 Lib.Math.max.name ∈ WB := inWB 721 (by decide +kernel) (by decide +kernel)
theorem w_189 : Cond.static Lib.Math.max.name ∈ WB := inWB 189 (by decide +kernel) (by decide +kernel)
theorem w_58 : Cond.initialized RJ9 ∈ WB := inWB 58 (by decide +kernel) (by decide +kernel)
theorem w_190 : Cond.code Lib.Math.max.name Lib.Math.max.code 2 (some .int) ∈ WB := inWB 190 (by decide +kernel) (by decide +kernel)
theorem w_726 : Cond.methodLink RX6 229 yX6_bothComeOver ∈ WB := inWB 726 (by decide +kernel) (by decide +kernel)
theorem w_728 : Cond.instanceMethod yX6_bothComeOver ∈ WB := inWB 728 (by decide +kernel) (by decide +kernel)
theorem w_16 : Cond.selects RX6 yX6_bothComeOver yX6_bothComeOver ∈ WB := inWB 16 (by decide +kernel) (by decide +kernel)
theorem w_729 : Cond.code yX6_bothComeOver cX6_bothComeOver 7 (some .boolean) ∈ WB := inWB 729 (by decide +kernel) (by decide +kernel)
theorem w_730 : Cond.methodLink RX6 232 yX0_copyRested ∈ WB := inWB 730 (by decide +kernel) (by decide +kernel)
theorem w_731 : Cond.instanceMethod yX0_copyRested ∈ WB := inWB 731 (by decide +kernel) (by decide +kernel)
theorem w_732 : Cond.selects RX0 yX0_copyRested yX0_copyRested ∈ WB := inWB 732 (by decide +kernel) (by decide +kernel)
theorem w_733 : Cond.code yX0_copyRested cX0_copyRested 2 none ∈ WB := inWB 733 (by decide +kernel) (by decide +kernel)
theorem w_740 : Cond.methodLink RX6 235 yX1_weightIn ∈ WB := inWB 740 (by decide +kernel) (by decide +kernel)
theorem w_518 : Cond.instanceMethod yX1_weightIn ∈ WB := inWB 518 (by decide +kernel) (by decide +kernel)
theorem w_519 : Cond.selects RX1 yX1_weightIn yX1_weightIn ∈ WB := inWB 519 (by decide +kernel) (by decide +kernel)
theorem w_520 : Cond.code yX1_weightIn cX1_weightIn 2 (some .int) ∈ WB := inWB 520 (by decide +kernel) (by decide +kernel)
theorem w_753 : Cond.methodLink RX6 238 yX6_isAsSeen ∈ WB := inWB 753 (by decide +kernel) (by decide +kernel)
theorem w_755 : Cond.instanceMethod yX6_isAsSeen ∈ WB := inWB 755 (by decide +kernel) (by decide +kernel)
theorem w_17 : Cond.selects RX6 yX6_isAsSeen yX6_isAsSeen ∈ WB := inWB 17 (by decide +kernel) (by decide +kernel)
theorem w_756 : Cond.code yX6_isAsSeen cX6_isAsSeen 4 (some .boolean) ∈ WB := inWB 756 (by decide +kernel) (by decide +kernel)
theorem w_769 : Cond.methodLink RX6 245 yX6_comesOverByDraws ∈ WB := inWB 769 (by decide +kernel) (by decide +kernel)
theorem w_771 : Cond.instanceMethod yX6_comesOverByDraws ∈ WB := inWB 771 (by decide +kernel) (by decide +kernel)
theorem w_18 : Cond.selects RX6 yX6_comesOverByDraws yX6_comesOverByDraws ∈ WB := inWB 18 (by decide +kernel) (by decide +kernel)
theorem w_772 : Cond.code yX6_comesOverByDraws cX6_comesOverByDraws 5 (some .boolean) ∈ WB := inWB 772 (by decide +kernel) (by decide +kernel)
theorem w_786 : Cond.methodLink RX6 248 yX5_isFull ∈ WB := inWB 786 (by decide +kernel) (by decide +kernel)
theorem w_569 : Cond.instanceMethod yX5_isFull ∈ WB := inWB 569 (by decide +kernel) (by decide +kernel)
theorem w_570 : Cond.selects RX5 yX5_isFull yX5_isFull ∈ WB := inWB 570 (by decide +kernel) (by decide +kernel)
theorem w_571 : Cond.code yX5_isFull cX5_isFull 1 (some .boolean) ∈ WB := inWB 571 (by decide +kernel) (by decide +kernel)
theorem w_795 : Cond.methodLink RX6 251 yX0_placesSpanned ∈ WB := inWB 795 (by decide +kernel) (by decide +kernel)
theorem w_677 : Cond.instanceMethod yX0_placesSpanned ∈ WB := inWB 677 (by decide +kernel) (by decide +kernel)
theorem w_678 : Cond.selects RX0 yX0_placesSpanned yX0_placesSpanned ∈ WB := inWB 678 (by decide +kernel) (by decide +kernel)
theorem w_679 : Cond.code yX0_placesSpanned cX0_placesSpanned 1 (some .int) ∈ WB := inWB 679 (by decide +kernel) (by decide +kernel)
theorem w_796 : Cond.methodLink RX6 254 yX2_yearNow ∈ WB := inWB 796 (by decide +kernel) (by decide +kernel)
theorem w_797 : Cond.instanceMethod yX2_yearNow ∈ WB := inWB 797 (by decide +kernel) (by decide +kernel)
theorem w_798 : Cond.selects RX2 yX2_yearNow yX2_yearNow ∈ WB := inWB 798 (by decide +kernel) (by decide +kernel)
theorem w_799 : Cond.code yX2_yearNow cX2_yearNow 1 (some .int) ∈ WB := inWB 799 (by decide +kernel) (by decide +kernel)
theorem w_497 : Cond.methodLink RX6 257 yX0_unload ∈ WB := inWB 497 (by decide +kernel) (by decide +kernel)
theorem w_498 : Cond.instanceMethod yX0_unload ∈ WB := inWB 498 (by decide +kernel) (by decide +kernel)
theorem w_499 : Cond.selects RX0 yX0_unload yX0_unload ∈ WB := inWB 499 (by decide +kernel) (by decide +kernel)
theorem w_500 : Cond.code yX0_unload cX0_unload 2 none ∈ WB := inWB 500 (by decide +kernel) (by decide +kernel)
theorem w_525 : Cond.methodLink RX6 260 yX0_press ∈ WB := inWB 525 (by decide +kernel) (by decide +kernel)
theorem w_526 : Cond.instanceMethod yX0_press ∈ WB := inWB 526 (by decide +kernel) (by decide +kernel)
theorem w_527 : Cond.selects RX0 yX0_press yX0_press ∈ WB := inWB 527 (by decide +kernel) (by decide +kernel)
theorem w_528 : Cond.code yX0_press cX0_press 6 none ∈ WB := inWB 528 (by decide +kernel) (by decide +kernel)
theorem w_536 : Cond.methodLink RX6 264 yX0_borneAt ∈ WB := inWB 536 (by decide +kernel) (by decide +kernel)
theorem w_537 : Cond.instanceMethod yX0_borneAt ∈ WB := inWB 537 (by decide +kernel) (by decide +kernel)
theorem w_538 : Cond.selects RX0 yX0_borneAt yX0_borneAt ∈ WB := inWB 538 (by decide +kernel) (by decide +kernel)
theorem w_539 : Cond.code yX0_borneAt cX0_borneAt 2 (some .int) ∈ WB := inWB 539 (by decide +kernel) (by decide +kernel)
theorem w_709 : Cond.methodLink RX6 267 yX0_replace ∈ WB := inWB 709 (by decide +kernel) (by decide +kernel)
theorem w_710 : Cond.instanceMethod yX0_replace ∈ WB := inWB 710 (by decide +kernel) (by decide +kernel)
theorem w_711 : Cond.selects RX0 yX0_replace yX0_replace ∈ WB := inWB 711 (by decide +kernel) (by decide +kernel)
theorem w_712 : Cond.code yX0_replace cX0_replace 3 none ∈ WB := inWB 712 (by decide +kernel) (by decide +kernel)
theorem w_735 : Cond.methodLink RX6 270 yX0_settle ∈ WB := inWB 735 (by decide +kernel) (by decide +kernel)
theorem w_616 : Cond.instanceMethod yX0_settle ∈ WB := inWB 616 (by decide +kernel) (by decide +kernel)
theorem w_617 : Cond.selects RX0 yX0_settle yX0_settle ∈ WB := inWB 617 (by decide +kernel) (by decide +kernel)
theorem w_618 : Cond.code yX0_settle cX0_settle 2 (some .boolean) ∈ WB := inWB 618 (by decide +kernel) (by decide +kernel)
theorem w_757 : Cond.methodLink RX6 273 yX0_loadAlone ∈ WB := inWB 757 (by decide +kernel) (by decide +kernel)
theorem w_610 : Cond.instanceMethod yX0_loadAlone ∈ WB := inWB 610 (by decide +kernel) (by decide +kernel)
theorem w_611 : Cond.selects RX0 yX0_loadAlone yX0_loadAlone ∈ WB := inWB 611 (by decide +kernel) (by decide +kernel)
theorem w_612 : Cond.code yX0_loadAlone cX0_loadAlone 3 none ∈ WB := inWB 612 (by decide +kernel) (by decide +kernel)
theorem w_758 : Cond.methodLink RX6 276 yX0_tire ∈ WB := inWB 758 (by decide +kernel) (by decide +kernel)
theorem w_621 : Cond.instanceMethod yX0_tire ∈ WB := inWB 621 (by decide +kernel) (by decide +kernel)
theorem w_622 : Cond.selects RX0 yX0_tire yX0_tire ∈ WB := inWB 622 (by decide +kernel) (by decide +kernel)
theorem w_623 : Cond.code yX0_tire cX0_tire 4 none ∈ WB := inWB 623 (by decide +kernel) (by decide +kernel)
theorem w_773 : Cond.methodLink RX6 279 yX6_drawnWind ∈ WB := inWB 773 (by decide +kernel) (by decide +kernel)
theorem w_774 : Cond.static yX6_drawnWind ∈ WB := inWB 774 (by decide +kernel) (by decide +kernel)
theorem w_775 : Cond.code yX6_drawnWind cX6_drawnWind 7 (some .int) ∈ WB := inWB 775 (by decide +kernel) (by decide +kernel)
theorem w_403 : Cond.methodLink RX0 29 yX0_rest ∈ WB := inWB 403 (by decide +kernel) (by decide +kernel)
theorem w_404 : Cond.instanceMethod yX0_rest ∈ WB := inWB 404 (by decide +kernel) (by decide +kernel)
theorem w_405 : Cond.selects RX0 yX0_rest yX0_rest ∈ WB := inWB 405 (by decide +kernel) (by decide +kernel)
theorem w_406 : Cond.code yX0_rest cX0_rest 2 none ∈ WB := inWB 406 (by decide +kernel) (by decide +kernel)
theorem w_496 : Cond.methodLink RX0 32 arraycopyName ∈ WB := inWB 496 (by decide +kernel) (by decide +kernel)
theorem w_393 : Cond.static arraycopyName ∈ WB := inWB 393 (by decide +kernel) (by decide +kernel)
theorem w_65 : Cond.initialized RJ10 ∈ WB := inWB 65 (by decide +kernel) (by decide +kernel)
theorem w_394 : Cond.native arraycopyName ∈ WB := inWB 394 (by decide +kernel) (by decide +kernel)
theorem w_734 : Cond.methodLink RX0 38 yX0_copyFrom ∈ WB := inWB 734 (by decide +kernel) (by decide +kernel)
theorem w_483 : Cond.methodLink RX0 42 yX1_kindOf ∈ WB := inWB 483 (by decide +kernel) (by decide +kernel)
theorem w_475 : Cond.methodLink RX0 48 yX1_lengthOf ∈ WB := inWB 475 (by decide +kernel) (by decide +kernel)
theorem w_557 : Cond.methodLink RX0 51 yX0_firstPlaceOf ∈ WB := inWB 557 (by decide +kernel) (by decide +kernel)
theorem w_558 : Cond.methodLink RX0 54 yX1_width ∈ WB := inWB 558 (by decide +kernel) (by decide +kernel)
theorem w_680 : Cond.methodLink RX0 58 Lib.Math.min.name ∈ WB := inWB 680 (by decide +kernel) (by decide +kernel)
theorem w_681 : Cond.static Lib.Math.min.name ∈ WB := inWB 681 (by decide +kernel) (by decide +kernel)
theorem w_682 : Cond.code Lib.Math.min.name Lib.Math.min.code 2 (some .int) ∈ WB := inWB 682 (by decide +kernel) (by decide +kernel)
theorem w_553 : Cond.methodLink RX0 64 yX0_isWhole ∈ WB := inWB 553 (by decide +kernel) (by decide +kernel)
theorem w_559 : Cond.methodLink RX0 68 yX0_positionOf ∈ WB := inWB 559 (by decide +kernel) (by decide +kernel)
theorem w_560 : Cond.methodLink RX0 71 yX1_hasCrow ∈ WB := inWB 560 (by decide +kernel) (by decide +kernel)
theorem w_561 : Cond.instanceMethod yX1_hasCrow ∈ WB := inWB 561 (by decide +kernel) (by decide +kernel)
theorem w_562 : Cond.selects RX1 yX1_hasCrow yX1_hasCrow ∈ WB := inWB 562 (by decide +kernel) (by decide +kernel)
theorem w_563 : Cond.code yX1_hasCrow cX1_hasCrow 2 (some .boolean) ∈ WB := inWB 563 (by decide +kernel) (by decide +kernel)
theorem w_484 : Cond.methodLink RX0 74 yX0_kindAt ∈ WB := inWB 484 (by decide +kernel) (by decide +kernel)
theorem w_485 : Cond.instanceMethod yX0_kindAt ∈ WB := inWB 485 (by decide +kernel) (by decide +kernel)
theorem w_486 : Cond.selects RX0 yX0_kindAt yX0_kindAt ∈ WB := inWB 486 (by decide +kernel) (by decide +kernel)
theorem w_487 : Cond.code yX0_kindAt cX0_kindAt 2 (some .int) ∈ WB := inWB 487 (by decide +kernel) (by decide +kernel)
theorem w_480 : Cond.methodLink RX0 77 yX0_birdAt ∈ WB := inWB 480 (by decide +kernel) (by decide +kernel)
theorem w_481 : Cond.methodLink RX0 80 yX1_strengthOf ∈ WB := inWB 481 (by decide +kernel) (by decide +kernel)
theorem w_482 : Cond.methodLink RX0 83 yX0_tiredOf ∈ WB := inWB 482 (by decide +kernel) (by decide +kernel)
theorem w_529 : Cond.methodLink RX0 86 yX0_whoSpans ∈ WB := inWB 529 (by decide +kernel) (by decide +kernel)
theorem w_531 : Cond.instanceMethod yX0_whoSpans ∈ WB := inWB 531 (by decide +kernel) (by decide +kernel)
theorem w_10 : Cond.selects RX0 yX0_whoSpans yX0_whoSpans ∈ WB := inWB 10 (by decide +kernel) (by decide +kernel)
theorem w_532 : Cond.code yX0_whoSpans cX0_whoSpans 4 (some .int) ∈ WB := inWB 532 (by decide +kernel) (by decide +kernel)
theorem w_533 : Cond.methodLink RX0 89 Lib.Math.abs.name ∈ WB := inWB 533 (by decide +kernel) (by decide +kernel)
theorem w_534 : Cond.static Lib.Math.abs.name ∈ WB := inWB 534 (by decide +kernel) (by decide +kernel)
theorem w_535 : Cond.code Lib.Math.abs.name Lib.Math.abs.code 1 (some .int) ∈ WB := inWB 535 (by decide +kernel) (by decide +kernel)
theorem w_613 : Cond.methodLink RX0 92 yX0_unload ∈ WB := inWB 613 (by decide +kernel) (by decide +kernel)
theorem w_614 : Cond.methodLink RX0 95 yX0_press ∈ WB := inWB 614 (by decide +kernel) (by decide +kernel)
theorem w_619 : Cond.methodLink RX0 99 yX0_powerAt ∈ WB := inWB 619 (by decide +kernel) (by decide +kernel)
theorem w_620 : Cond.methodLink RX0 102 yX0_tire ∈ WB := inWB 620 (by decide +kernel) (by decide +kernel)
theorem w_656 : Cond.methodLink RX0 105 yX1_windIn ∈ WB := inWB 656 (by decide +kernel) (by decide +kernel)
theorem w_657 : Cond.methodLink RX0 108 yX0_loadAlone ∈ WB := inWB 657 (by decide +kernel) (by decide +kernel)
theorem w_658 : Cond.methodLink RX0 111 yX0_settle ∈ WB := inWB 658 (by decide +kernel) (by decide +kernel)
theorem w_98 : Cond.methodLink RX1 27 yX1_clear ∈ WB := inWB 98 (by decide +kernel) (by decide +kernel)
theorem w_99 : Cond.instanceMethod yX1_clear ∈ WB := inWB 99 (by decide +kernel) (by decide +kernel)
theorem w_100 : Cond.selects RX1 yX1_clear yX1_clear ∈ WB := inWB 100 (by decide +kernel) (by decide +kernel)
theorem w_101 : Cond.code yX1_clear cX1_clear 1 none ∈ WB := inWB 101 (by decide +kernel) (by decide +kernel)
theorem w_392 : Cond.methodLink RX1 46 arraycopyName ∈ WB := inWB 392 (by decide +kernel) (by decide +kernel)
theorem w_309 : Cond.methodLink RX1 52 yX1_takeBird ∈ WB := inWB 309 (by decide +kernel) (by decide +kernel)
theorem w_311 : Cond.instanceMethod yX1_takeBird ∈ WB := inWB 311 (by decide +kernel) (by decide +kernel)
theorem w_4 : Cond.selects RX1 yX1_takeBird yX1_takeBird ∈ WB := inWB 4 (by decide +kernel) (by decide +kernel)
theorem w_312 : Cond.code yX1_takeBird cX1_takeBird 5 (some .boolean) ∈ WB := inWB 312 (by decide +kernel) (by decide +kernel)
theorem w_313 : Cond.methodLink RX1 56 yX1_takeRiver ∈ WB := inWB 313 (by decide +kernel) (by decide +kernel)
theorem w_315 : Cond.instanceMethod yX1_takeRiver ∈ WB := inWB 315 (by decide +kernel) (by decide +kernel)
theorem w_5 : Cond.selects RX1 yX1_takeRiver yX1_takeRiver ∈ WB := inWB 5 (by decide +kernel) (by decide +kernel)
theorem w_316 : Cond.code yX1_takeRiver cX1_takeRiver 2 (some .boolean) ∈ WB := inWB 316 (by decide +kernel) (by decide +kernel)
theorem w_317 : Cond.methodLink RX1 60 yX1_takeWind ∈ WB := inWB 317 (by decide +kernel) (by decide +kernel)
theorem w_319 : Cond.instanceMethod yX1_takeWind ∈ WB := inWB 319 (by decide +kernel) (by decide +kernel)
theorem w_6 : Cond.selects RX1 yX1_takeWind yX1_takeWind ∈ WB := inWB 6 (by decide +kernel) (by decide +kernel)
theorem w_320 : Cond.code yX1_takeWind cX1_takeWind 2 (some .boolean) ∈ WB := inWB 320 (by decide +kernel) (by decide +kernel)
theorem w_321 : Cond.methodLink RX1 63 yX1_takeLoad ∈ WB := inWB 321 (by decide +kernel) (by decide +kernel)
theorem w_323 : Cond.instanceMethod yX1_takeLoad ∈ WB := inWB 323 (by decide +kernel) (by decide +kernel)
theorem w_7 : Cond.selects RX1 yX1_takeLoad yX1_takeLoad ∈ WB := inWB 7 (by decide +kernel) (by decide +kernel)
theorem w_324 : Cond.code yX1_takeLoad cX1_takeLoad 3 (some .boolean) ∈ WB := inWB 324 (by decide +kernel) (by decide +kernel)
theorem w_399 : Cond.methodLink RX2 38 yX0_clear ∈ WB := inWB 399 (by decide +kernel) (by decide +kernel)
theorem w_400 : Cond.instanceMethod yX0_clear ∈ WB := inWB 400 (by decide +kernel) (by decide +kernel)
theorem w_401 : Cond.selects RX0 yX0_clear yX0_clear ∈ WB := inWB 401 (by decide +kernel) (by decide +kernel)
theorem w_402 : Cond.code yX0_clear cX0_clear 1 none ∈ WB := inWB 402 (by decide +kernel) (by decide +kernel)
theorem w_580 : Cond.methodLink RX2 41 yX0_copyFrom ∈ WB := inWB 580 (by decide +kernel) (by decide +kernel)
theorem w_517 : Cond.methodLink RX2 45 yX1_weightIn ∈ WB := inWB 517 (by decide +kernel) (by decide +kernel)
theorem w_505 : Cond.methodLink RX2 51 yX1_width ∈ WB := inWB 505 (by decide +kernel) (by decide +kernel)
theorem w_548 : Cond.methodLink RX2 55 yX2_isOnBridge ∈ WB := inWB 548 (by decide +kernel) (by decide +kernel)
theorem w_607 : Cond.methodLink RX2 59 yX2_weight ∈ WB := inWB 607 (by decide +kernel) (by decide +kernel)
theorem w_608 : Cond.methodLink RX2 62 yX1_windIn ∈ WB := inWB 608 (by decide +kernel) (by decide +kernel)
theorem w_609 : Cond.methodLink RX2 65 yX0_loadAlone ∈ WB := inWB 609 (by decide +kernel) (by decide +kernel)
theorem w_615 : Cond.methodLink RX2 69 yX0_settle ∈ WB := inWB 615 (by decide +kernel) (by decide +kernel)
theorem w_282 : Cond.methodLink RX3 23 yX1_clear ∈ WB := inWB 282 (by decide +kernel) (by decide +kernel)
theorem w_283 : Cond.methodLink RX3 28 yX3_readItem ∈ WB := inWB 283 (by decide +kernel) (by decide +kernel)
theorem w_285 : Cond.instanceMethod yX3_readItem ∈ WB := inWB 285 (by decide +kernel) (by decide +kernel)
theorem w_0 : Cond.selects RX3 yX3_readItem yX3_readItem ∈ WB := inWB 0 (by decide +kernel) (by decide +kernel)
theorem w_286 : Cond.code yX3_readItem cX3_readItem 6 (some .int) ∈ WB := inWB 286 (by decide +kernel) (by decide +kernel)
theorem w_287 : Cond.methodLink RX3 32 yX3_letterAt ∈ WB := inWB 287 (by decide +kernel) (by decide +kernel)
theorem w_289 : Cond.instanceMethod yX3_letterAt ∈ WB := inWB 289 (by decide +kernel) (by decide +kernel)
theorem w_1 : Cond.selects RX3 yX3_letterAt yX3_letterAt ∈ WB := inWB 1 (by decide +kernel) (by decide +kernel)
theorem w_290 : Cond.code yX3_letterAt cX3_letterAt 2 (some .char) ∈ WB := inWB 290 (by decide +kernel) (by decide +kernel)
theorem w_305 : Cond.methodLink RX3 36 yX1_take ∈ WB := inWB 305 (by decide +kernel) (by decide +kernel)
theorem w_306 : Cond.instanceMethod yX1_take ∈ WB := inWB 306 (by decide +kernel) (by decide +kernel)
theorem w_307 : Cond.selects RX1 yX1_take yX1_take ∈ WB := inWB 307 (by decide +kernel) (by decide +kernel)
theorem w_308 : Cond.code yX1_take cX1_take 3 (some .boolean) ∈ WB := inWB 308 (by decide +kernel) (by decide +kernel)
theorem w_291 : Cond.methodLink RX3 40 yX3_numbersBehind ∈ WB := inWB 291 (by decide +kernel) (by decide +kernel)
theorem w_292 : Cond.static yX3_numbersBehind ∈ WB := inWB 292 (by decide +kernel) (by decide +kernel)
theorem w_293 : Cond.code yX3_numbersBehind cX3_numbersBehind 1 (some .int) ∈ WB := inWB 293 (by decide +kernel) (by decide +kernel)
theorem w_294 : Cond.methodLink RX3 44 yX3_figuresFrom ∈ WB := inWB 294 (by decide +kernel) (by decide +kernel)
theorem w_296 : Cond.instanceMethod yX3_figuresFrom ∈ WB := inWB 296 (by decide +kernel) (by decide +kernel)
theorem w_2 : Cond.selects RX3 yX3_figuresFrom yX3_figuresFrom ∈ WB := inWB 2 (by decide +kernel) (by decide +kernel)
theorem w_297 : Cond.code yX3_figuresFrom cX3_figuresFrom 2 (some .int) ∈ WB := inWB 297 (by decide +kernel) (by decide +kernel)
theorem w_301 : Cond.methodLink RX3 47 yX3_numberAt ∈ WB := inWB 301 (by decide +kernel) (by decide +kernel)
theorem w_303 : Cond.instanceMethod yX3_numberAt ∈ WB := inWB 303 (by decide +kernel) (by decide +kernel)
theorem w_3 : Cond.selects RX3 yX3_numberAt yX3_numberAt ∈ WB := inWB 3 (by decide +kernel) (by decide +kernel)
theorem w_304 : Cond.code yX3_numberAt cX3_numberAt 5 (some .int) ∈ WB := inWB 304 (by decide +kernel) (by decide +kernel)
theorem w_298 : Cond.methodLink RX3 51 yX3_isFigure ∈ WB := inWB 298 (by decide +kernel) (by decide +kernel)
theorem w_299 : Cond.static yX3_isFigure ∈ WB := inWB 299 (by decide +kernel) (by decide +kernel)
theorem w_300 : Cond.code yX3_isFigure cX3_isFigure 1 (some .boolean) ∈ WB := inWB 300 (by decide +kernel) (by decide +kernel)
theorem w_667 : Cond.methodLink RX4 35 yX0_clear ∈ WB := inWB 667 (by decide +kernel) (by decide +kernel)
theorem w_668 : Cond.methodLink RX4 38 yX4_extend ∈ WB := inWB 668 (by decide +kernel) (by decide +kernel)
theorem w_670 : Cond.instanceMethod yX4_extend ∈ WB := inWB 670 (by decide +kernel) (by decide +kernel)
theorem w_12 : Cond.selects RX4 yX4_extend yX4_extend ∈ WB := inWB 12 (by decide +kernel) (by decide +kernel)
theorem w_671 : Cond.code yX4_extend cX4_extend 6 none ∈ WB := inWB 671 (by decide +kernel) (by decide +kernel)
theorem w_672 : Cond.methodLink RX4 42 yX1_birds ∈ WB := inWB 672 (by decide +kernel) (by decide +kernel)
theorem w_673 : Cond.methodLink RX4 48 yX0_mayJoin ∈ WB := inWB 673 (by decide +kernel) (by decide +kernel)
theorem w_674 : Cond.methodLink RX4 52 yX0_append ∈ WB := inWB 674 (by decide +kernel) (by decide +kernel)
theorem w_675 : Cond.methodLink RX4 56 yX0_rest ∈ WB := inWB 675 (by decide +kernel) (by decide +kernel)
theorem w_676 : Cond.methodLink RX4 59 yX0_placesSpanned ∈ WB := inWB 676 (by decide +kernel) (by decide +kernel)
theorem w_683 : Cond.methodLink RX4 62 yX0_walk ∈ WB := inWB 683 (by decide +kernel) (by decide +kernel)
theorem w_684 : Cond.methodLink RX4 66 yX0_isWhole ∈ WB := inWB 684 (by decide +kernel) (by decide +kernel)
theorem w_685 : Cond.methodLink RX4 70 yX4_noteFound ∈ WB := inWB 685 (by decide +kernel) (by decide +kernel)
theorem w_687 : Cond.instanceMethod yX4_noteFound ∈ WB := inWB 687 (by decide +kernel) (by decide +kernel)
theorem w_13 : Cond.selects RX4 yX4_noteFound yX4_noteFound ∈ WB := inWB 13 (by decide +kernel) (by decide +kernel)
theorem w_688 : Cond.code yX4_noteFound cX4_noteFound 2 none ∈ WB := inWB 688 (by decide +kernel) (by decide +kernel)
theorem w_691 : Cond.methodLink RX4 73 yX1_kindOf ∈ WB := inWB 691 (by decide +kernel) (by decide +kernel)
theorem w_692 : Cond.methodLink RX4 77 yX0_dropLast ∈ WB := inWB 692 (by decide +kernel) (by decide +kernel)
theorem w_689 : Cond.methodLink RX4 80 yX0_size ∈ WB := inWB 689 (by decide +kernel) (by decide +kernel)
theorem w_690 : Cond.methodLink RX4 83 yX0_birdAt ∈ WB := inWB 690 (by decide +kernel) (by decide +kernel)
theorem w_188 : Cond.methodLink RX5 13 Lib.Math.max.name ∈ WB := inWB 188 (by decide +kernel) (by decide +kernel)
theorem w_568 : Cond.methodLink RX5 28 yX5_isFull ∈ WB := inWB 568 (by decide +kernel) (by decide +kernel)
theorem w_572 : Cond.methodLink RX5 32 yX5_giveUpOldest ∈ WB := inWB 572 (by decide +kernel) (by decide +kernel)
theorem w_574 : Cond.instanceMethod yX5_giveUpOldest ∈ WB := inWB 574 (by decide +kernel) (by decide +kernel)
theorem w_11 : Cond.selects RX5 yX5_giveUpOldest yX5_giveUpOldest ∈ WB := inWB 11 (by decide +kernel) (by decide +kernel)
theorem w_575 : Cond.code yX5_giveUpOldest cX5_giveUpOldest 3 none ∈ WB := inWB 575 (by decide +kernel) (by decide +kernel)
theorem w_576 : Cond.methodLink RX5 35 yX2_copyFrom ∈ WB := inWB 576 (by decide +kernel) (by decide +kernel)
theorem w_577 : Cond.instanceMethod yX2_copyFrom ∈ WB := inWB 577 (by decide +kernel) (by decide +kernel)
theorem w_578 : Cond.selects RX2 yX2_copyFrom yX2_copyFrom ∈ WB := inWB 578 (by decide +kernel) (by decide +kernel)
theorem w_579 : Cond.code yX2_copyFrom cX2_copyFrom 2 none ∈ WB := inWB 579 (by decide +kernel) (by decide +kernel)
theorem w_364 : Cond.methodLink RL 13 yX6_write ∈ WB := inWB 364 (by decide +kernel) (by decide +kernel)
theorem w_365 : Cond.instanceMethod yX6_write ∈ WB := inWB 365 (by decide +kernel) (by decide +kernel)
theorem w_366 : Cond.selects RX6 yX6_write yX6_write ∈ WB := inWB 366 (by decide +kernel) (by decide +kernel)
theorem w_367 : Cond.code yX6_write cX6_write 2 (some .int) ∈ WB := inWB 367 (by decide +kernel) (by decide +kernel)
theorem w_914 : Cond.methodLink RL 17 yX7_write ∈ WB := inWB 914 (by decide +kernel) (by decide +kernel)
theorem w_915 : Cond.instanceMethod yX7_write ∈ WB := inWB 915 (by decide +kernel) (by decide +kernel)
theorem w_916 : Cond.selects RX7 yX7_write yX7_write ∈ WB := inWB 916 (by decide +kernel) (by decide +kernel)
theorem w_64 : Cond.initialized RX7 ∈ WB := inWB 64 (by decide +kernel) (by decide +kernel)
theorem w_917 : Cond.code yX7_write cX7_write 2 (some .int) ∈ WB := inWB 917 (by decide +kernel) (by decide +kernel)
theorem w_372 : Cond.methodLink RL 18 yX6_wipe ∈ WB := inWB 372 (by decide +kernel) (by decide +kernel)
theorem w_373 : Cond.instanceMethod yX6_wipe ∈ WB := inWB 373 (by decide +kernel) (by decide +kernel)
theorem w_374 : Cond.selects RX6 yX6_wipe yX6_wipe ∈ WB := inWB 374 (by decide +kernel) (by decide +kernel)
theorem w_375 : Cond.code yX6_wipe cX6_wipe 2 (some .int) ∈ WB := inWB 375 (by decide +kernel) (by decide +kernel)
theorem w_921 : Cond.methodLink RL 22 yX7_wipe ∈ WB := inWB 921 (by decide +kernel) (by decide +kernel)
theorem w_922 : Cond.instanceMethod yX7_wipe ∈ WB := inWB 922 (by decide +kernel) (by decide +kernel)
theorem w_923 : Cond.selects RX7 yX7_wipe yX7_wipe ∈ WB := inWB 923 (by decide +kernel) (by decide +kernel)
theorem w_924 : Cond.code yX7_wipe cX7_wipe 2 (some .int) ∈ WB := inWB 924 (by decide +kernel) (by decide +kernel)
theorem w_376 : Cond.methodLink RL 23 yX6_fault ∈ WB := inWB 376 (by decide +kernel) (by decide +kernel)
theorem w_377 : Cond.instanceMethod yX6_fault ∈ WB := inWB 377 (by decide +kernel) (by decide +kernel)
theorem w_378 : Cond.selects RX6 yX6_fault yX6_fault ∈ WB := inWB 378 (by decide +kernel) (by decide +kernel)
theorem w_379 : Cond.code yX6_fault cX6_fault 1 (some .int) ∈ WB := inWB 379 (by decide +kernel) (by decide +kernel)
theorem w_925 : Cond.methodLink RL 26 yX7_fault ∈ WB := inWB 925 (by decide +kernel) (by decide +kernel)
theorem w_926 : Cond.instanceMethod yX7_fault ∈ WB := inWB 926 (by decide +kernel) (by decide +kernel)
theorem w_927 : Cond.selects RX7 yX7_fault yX7_fault ∈ WB := inWB 927 (by decide +kernel) (by decide +kernel)
theorem w_928 : Cond.code yX7_fault cX7_fault 1 (some .int) ∈ WB := inWB 928 (by decide +kernel) (by decide +kernel)
theorem w_380 : Cond.methodLink RL 27 yX6_lay ∈ WB := inWB 380 (by decide +kernel) (by decide +kernel)
theorem w_381 : Cond.instanceMethod yX6_lay ∈ WB := inWB 381 (by decide +kernel) (by decide +kernel)
theorem w_382 : Cond.selects RX6 yX6_lay yX6_lay ∈ WB := inWB 382 (by decide +kernel) (by decide +kernel)
theorem w_383 : Cond.code yX6_lay cX6_lay 1 (some .int) ∈ WB := inWB 383 (by decide +kernel) (by decide +kernel)
theorem w_945 : Cond.methodLink RL 30 yX7_lay ∈ WB := inWB 945 (by decide +kernel) (by decide +kernel)
theorem w_946 : Cond.instanceMethod yX7_lay ∈ WB := inWB 946 (by decide +kernel) (by decide +kernel)
theorem w_947 : Cond.selects RX7 yX7_lay yX7_lay ∈ WB := inWB 947 (by decide +kernel) (by decide +kernel)
theorem w_948 : Cond.code yX7_lay cX7_lay 2 (some .int) ∈ WB := inWB 948 (by decide +kernel) (by decide +kernel)
theorem w_415 : Cond.methodLink RL 31 yX6_bird ∈ WB := inWB 415 (by decide +kernel) (by decide +kernel)
theorem w_416 : Cond.instanceMethod yX6_bird ∈ WB := inWB 416 (by decide +kernel) (by decide +kernel)
theorem w_417 : Cond.selects RX6 yX6_bird yX6_bird ∈ WB := inWB 417 (by decide +kernel) (by decide +kernel)
theorem w_418 : Cond.code yX6_bird cX6_bird 3 (some .int) ∈ WB := inWB 418 (by decide +kernel) (by decide +kernel)
theorem w_949 : Cond.methodLink RL 35 yX7_bird ∈ WB := inWB 949 (by decide +kernel) (by decide +kernel)
theorem w_950 : Cond.instanceMethod yX7_bird ∈ WB := inWB 950 (by decide +kernel) (by decide +kernel)
theorem w_951 : Cond.selects RX7 yX7_bird yX7_bird ∈ WB := inWB 951 (by decide +kernel) (by decide +kernel)
theorem w_952 : Cond.code yX7_bird cX7_bird 3 (some .int) ∈ WB := inWB 952 (by decide +kernel) (by decide +kernel)
theorem w_451 : Cond.methodLink RL 36 yX6_wind ∈ WB := inWB 451 (by decide +kernel) (by decide +kernel)
theorem w_452 : Cond.instanceMethod yX6_wind ∈ WB := inWB 452 (by decide +kernel) (by decide +kernel)
theorem w_453 : Cond.selects RX6 yX6_wind yX6_wind ∈ WB := inWB 453 (by decide +kernel) (by decide +kernel)
theorem w_454 : Cond.code yX6_wind cX6_wind 2 (some .int) ∈ WB := inWB 454 (by decide +kernel) (by decide +kernel)
theorem w_961 : Cond.methodLink RL 39 yX7_wind ∈ WB := inWB 961 (by decide +kernel) (by decide +kernel)
theorem w_962 : Cond.instanceMethod yX7_wind ∈ WB := inWB 962 (by decide +kernel) (by decide +kernel)
theorem w_963 : Cond.selects RX7 yX7_wind yX7_wind ∈ WB := inWB 963 (by decide +kernel) (by decide +kernel)
theorem w_964 : Cond.code yX7_wind cX7_wind 2 (some .int) ∈ WB := inWB 964 (by decide +kernel) (by decide +kernel)
theorem w_459 : Cond.methodLink RL 40 yX6_span ∈ WB := inWB 459 (by decide +kernel) (by decide +kernel)
theorem w_460 : Cond.instanceMethod yX6_span ∈ WB := inWB 460 (by decide +kernel) (by decide +kernel)
theorem w_461 : Cond.selects RX6 yX6_span yX6_span ∈ WB := inWB 461 (by decide +kernel) (by decide +kernel)
theorem w_462 : Cond.code yX6_span cX6_span 4 (some .int) ∈ WB := inWB 462 (by decide +kernel) (by decide +kernel)
theorem w_969 : Cond.methodLink RL 43 yX7_span ∈ WB := inWB 969 (by decide +kernel) (by decide +kernel)
theorem w_970 : Cond.instanceMethod yX7_span ∈ WB := inWB 970 (by decide +kernel) (by decide +kernel)
theorem w_971 : Cond.selects RX7 yX7_span yX7_span ∈ WB := inWB 971 (by decide +kernel) (by decide +kernel)
theorem w_972 : Cond.code yX7_span cX7_span 3 (some .int) ∈ WB := inWB 972 (by decide +kernel) (by decide +kernel)
theorem w_540 : Cond.methodLink RL 44 yX6_join ∈ WB := inWB 540 (by decide +kernel) (by decide +kernel)
theorem w_541 : Cond.instanceMethod yX6_join ∈ WB := inWB 541 (by decide +kernel) (by decide +kernel)
theorem w_542 : Cond.selects RX6 yX6_join yX6_join ∈ WB := inWB 542 (by decide +kernel) (by decide +kernel)
theorem w_543 : Cond.code yX6_join cX6_join 2 (some .int) ∈ WB := inWB 543 (by decide +kernel) (by decide +kernel)
theorem w_1008 : Cond.methodLink RL 47 yX7_join ∈ WB := inWB 1008 (by decide +kernel) (by decide +kernel)
theorem w_1009 : Cond.instanceMethod yX7_join ∈ WB := inWB 1009 (by decide +kernel) (by decide +kernel)
theorem w_1010 : Cond.selects RX7 yX7_join yX7_join ∈ WB := inWB 1010 (by decide +kernel) (by decide +kernel)
theorem w_1011 : Cond.code yX7_join cX7_join 2 (some .int) ∈ WB := inWB 1011 (by decide +kernel) (by decide +kernel)
theorem w_585 : Cond.methodLink RL 48 yX6_leave ∈ WB := inWB 585 (by decide +kernel) (by decide +kernel)
theorem w_586 : Cond.instanceMethod yX6_leave ∈ WB := inWB 586 (by decide +kernel) (by decide +kernel)
theorem w_587 : Cond.selects RX6 yX6_leave yX6_leave ∈ WB := inWB 587 (by decide +kernel) (by decide +kernel)
theorem w_588 : Cond.code yX6_leave cX6_leave 3 (some .int) ∈ WB := inWB 588 (by decide +kernel) (by decide +kernel)
theorem w_1035 : Cond.methodLink RL 51 yX7_leave ∈ WB := inWB 1035 (by decide +kernel) (by decide +kernel)
theorem w_1036 : Cond.instanceMethod yX7_leave ∈ WB := inWB 1036 (by decide +kernel) (by decide +kernel)
theorem w_1037 : Cond.selects RX7 yX7_leave yX7_leave ∈ WB := inWB 1037 (by decide +kernel) (by decide +kernel)
theorem w_1038 : Cond.code yX7_leave cX7_leave 1 (some .int) ∈ WB := inWB 1038 (by decide +kernel) (by decide +kernel)
theorem w_593 : Cond.methodLink RL 52 yX6_step ∈ WB := inWB 593 (by decide +kernel) (by decide +kernel)
theorem w_594 : Cond.instanceMethod yX6_step ∈ WB := inWB 594 (by decide +kernel) (by decide +kernel)
theorem w_595 : Cond.selects RX6 yX6_step yX6_step ∈ WB := inWB 595 (by decide +kernel) (by decide +kernel)
theorem w_596 : Cond.code yX6_step cX6_step 1 (some .int) ∈ WB := inWB 596 (by decide +kernel) (by decide +kernel)
theorem w_1039 : Cond.methodLink RL 55 yX7_step ∈ WB := inWB 1039 (by decide +kernel) (by decide +kernel)
theorem w_1040 : Cond.instanceMethod yX7_step ∈ WB := inWB 1040 (by decide +kernel) (by decide +kernel)
theorem w_1041 : Cond.selects RX7 yX7_step yX7_step ∈ WB := inWB 1041 (by decide +kernel) (by decide +kernel)
theorem w_1042 : Cond.code yX7_step cX7_step 1 (some .int) ∈ WB := inWB 1042 (by decide +kernel) (by decide +kernel)
theorem w_624 : Cond.methodLink RL 56 yX6_stand ∈ WB := inWB 624 (by decide +kernel) (by decide +kernel)
theorem w_625 : Cond.instanceMethod yX6_stand ∈ WB := inWB 625 (by decide +kernel) (by decide +kernel)
theorem w_626 : Cond.selects RX6 yX6_stand yX6_stand ∈ WB := inWB 626 (by decide +kernel) (by decide +kernel)
theorem w_627 : Cond.code yX6_stand cX6_stand 1 (some .int) ∈ WB := inWB 627 (by decide +kernel) (by decide +kernel)
theorem w_1055 : Cond.methodLink RL 59 yX7_stand ∈ WB := inWB 1055 (by decide +kernel) (by decide +kernel)
theorem w_1056 : Cond.instanceMethod yX7_stand ∈ WB := inWB 1056 (by decide +kernel) (by decide +kernel)
theorem w_1057 : Cond.selects RX7 yX7_stand yX7_stand ∈ WB := inWB 1057 (by decide +kernel) (by decide +kernel)
theorem w_1058 : Cond.code yX7_stand cX7_stand 1 (some .int) ∈ WB := inWB 1058 (by decide +kernel) (by decide +kernel)
theorem w_628 : Cond.methodLink RL 60 yX6_year ∈ WB := inWB 628 (by decide +kernel) (by decide +kernel)
theorem w_629 : Cond.instanceMethod yX6_year ∈ WB := inWB 629 (by decide +kernel) (by decide +kernel)
theorem w_630 : Cond.selects RX6 yX6_year yX6_year ∈ WB := inWB 630 (by decide +kernel) (by decide +kernel)
theorem w_631 : Cond.code yX6_year cX6_year 2 (some .int) ∈ WB := inWB 631 (by decide +kernel) (by decide +kernel)
theorem w_1059 : Cond.methodLink RL 63 yX7_year ∈ WB := inWB 1059 (by decide +kernel) (by decide +kernel)
theorem w_1060 : Cond.instanceMethod yX7_year ∈ WB := inWB 1060 (by decide +kernel) (by decide +kernel)
theorem w_1061 : Cond.selects RX7 yX7_year yX7_year ∈ WB := inWB 1061 (by decide +kernel) (by decide +kernel)
theorem w_1062 : Cond.code yX7_year cX7_year 2 (some .int) ∈ WB := inWB 1062 (by decide +kernel) (by decide +kernel)
theorem w_636 : Cond.methodLink RL 64 yX6_undo ∈ WB := inWB 636 (by decide +kernel) (by decide +kernel)
theorem w_637 : Cond.instanceMethod yX6_undo ∈ WB := inWB 637 (by decide +kernel) (by decide +kernel)
theorem w_638 : Cond.selects RX6 yX6_undo yX6_undo ∈ WB := inWB 638 (by decide +kernel) (by decide +kernel)
theorem w_639 : Cond.code yX6_undo cX6_undo 1 (some .int) ∈ WB := inWB 639 (by decide +kernel) (by decide +kernel)
theorem w_1063 : Cond.methodLink RL 67 yX7_undo ∈ WB := inWB 1063 (by decide +kernel) (by decide +kernel)
theorem w_1064 : Cond.instanceMethod yX7_undo ∈ WB := inWB 1064 (by decide +kernel) (by decide +kernel)
theorem w_1065 : Cond.selects RX7 yX7_undo yX7_undo ∈ WB := inWB 1065 (by decide +kernel) (by decide +kernel)
theorem w_1066 : Cond.code yX7_undo cX7_undo 1 (some .int) ∈ WB := inWB 1066 (by decide +kernel) (by decide +kernel)
theorem w_648 : Cond.methodLink RL 68 yX6_over ∈ WB := inWB 648 (by decide +kernel) (by decide +kernel)
theorem w_649 : Cond.instanceMethod yX6_over ∈ WB := inWB 649 (by decide +kernel) (by decide +kernel)
theorem w_650 : Cond.selects RX6 yX6_over yX6_over ∈ WB := inWB 650 (by decide +kernel) (by decide +kernel)
theorem w_651 : Cond.code yX6_over cX6_over 5 (some .int) ∈ WB := inWB 651 (by decide +kernel) (by decide +kernel)
theorem w_1067 : Cond.methodLink RL 71 yX7_over ∈ WB := inWB 1067 (by decide +kernel) (by decide +kernel)
theorem w_1068 : Cond.instanceMethod yX7_over ∈ WB := inWB 1068 (by decide +kernel) (by decide +kernel)
theorem w_1069 : Cond.selects RX7 yX7_over yX7_over ∈ WB := inWB 1069 (by decide +kernel) (by decide +kernel)
theorem w_1070 : Cond.code yX7_over cX7_over 2 (some .int) ∈ WB := inWB 1070 (by decide +kernel) (by decide +kernel)
theorem w_659 : Cond.methodLink RL 72 yX6_fewest ∈ WB := inWB 659 (by decide +kernel) (by decide +kernel)
theorem w_660 : Cond.instanceMethod yX6_fewest ∈ WB := inWB 660 (by decide +kernel) (by decide +kernel)
theorem w_661 : Cond.selects RX6 yX6_fewest yX6_fewest ∈ WB := inWB 661 (by decide +kernel) (by decide +kernel)
theorem w_662 : Cond.code yX6_fewest cX6_fewest 2 (some .int) ∈ WB := inWB 662 (by decide +kernel) (by decide +kernel)
theorem w_1075 : Cond.methodLink RL 75 yX7_fewest ∈ WB := inWB 1075 (by decide +kernel) (by decide +kernel)
theorem w_1076 : Cond.instanceMethod yX7_fewest ∈ WB := inWB 1076 (by decide +kernel) (by decide +kernel)
theorem w_1077 : Cond.selects RX7 yX7_fewest yX7_fewest ∈ WB := inWB 1077 (by decide +kernel) (by decide +kernel)
theorem w_1078 : Cond.code yX7_fewest cX7_fewest 2 (some .int) ∈ WB := inWB 1078 (by decide +kernel) (by decide +kernel)
theorem w_701 : Cond.methodLink RL 76 yX6_mend ∈ WB := inWB 701 (by decide +kernel) (by decide +kernel)
theorem w_702 : Cond.instanceMethod yX6_mend ∈ WB := inWB 702 (by decide +kernel) (by decide +kernel)
theorem w_703 : Cond.selects RX6 yX6_mend yX6_mend ∈ WB := inWB 703 (by decide +kernel) (by decide +kernel)
theorem w_704 : Cond.code yX6_mend cX6_mend 4 (some .int) ∈ WB := inWB 704 (by decide +kernel) (by decide +kernel)
theorem w_1091 : Cond.methodLink RL 79 yX7_mend ∈ WB := inWB 1091 (by decide +kernel) (by decide +kernel)
theorem w_1092 : Cond.instanceMethod yX7_mend ∈ WB := inWB 1092 (by decide +kernel) (by decide +kernel)
theorem w_1093 : Cond.selects RX7 yX7_mend yX7_mend ∈ WB := inWB 1093 (by decide +kernel) (by decide +kernel)
theorem w_1094 : Cond.code yX7_mend cX7_mend 3 (some .int) ∈ WB := inWB 1094 (by decide +kernel) (by decide +kernel)
theorem w_713 : Cond.methodLink RL 80 yX6_calls ∈ WB := inWB 713 (by decide +kernel) (by decide +kernel)
theorem w_714 : Cond.instanceMethod yX6_calls ∈ WB := inWB 714 (by decide +kernel) (by decide +kernel)
theorem w_715 : Cond.selects RX6 yX6_calls yX6_calls ∈ WB := inWB 715 (by decide +kernel) (by decide +kernel)
theorem w_716 : Cond.code yX6_calls cX6_calls 6 (some .int) ∈ WB := inWB 716 (by decide +kernel) (by decide +kernel)
theorem w_1095 : Cond.methodLink RL 83 yX7_calls ∈ WB := inWB 1095 (by decide +kernel) (by decide +kernel)
theorem w_1096 : Cond.instanceMethod yX7_calls ∈ WB := inWB 1096 (by decide +kernel) (by decide +kernel)
theorem w_1097 : Cond.selects RX7 yX7_calls yX7_calls ∈ WB := inWB 1097 (by decide +kernel) (by decide +kernel)
theorem w_1098 : Cond.code yX7_calls cX7_calls 8 (some .int) ∈ WB := inWB 1098 (by decide +kernel) (by decide +kernel)
theorem w_722 : Cond.methodLink RL 84 yX6_second ∈ WB := inWB 722 (by decide +kernel) (by decide +kernel)
theorem w_723 : Cond.instanceMethod yX6_second ∈ WB := inWB 723 (by decide +kernel) (by decide +kernel)
theorem w_724 : Cond.selects RX6 yX6_second yX6_second ∈ WB := inWB 724 (by decide +kernel) (by decide +kernel)
theorem w_725 : Cond.code yX6_second cX6_second 3 (some .int) ∈ WB := inWB 725 (by decide +kernel) (by decide +kernel)
theorem w_1102 : Cond.methodLink RL 87 yX7_second ∈ WB := inWB 1102 (by decide +kernel) (by decide +kernel)
theorem w_1103 : Cond.instanceMethod yX7_second ∈ WB := inWB 1103 (by decide +kernel) (by decide +kernel)
theorem w_1104 : Cond.selects RX7 yX7_second yX7_second ∈ WB := inWB 1104 (by decide +kernel) (by decide +kernel)
theorem w_1105 : Cond.code yX7_second cX7_second 3 (some .int) ∈ WB := inWB 1105 (by decide +kernel) (by decide +kernel)
theorem w_736 : Cond.methodLink RL 88 yX6_years ∈ WB := inWB 736 (by decide +kernel) (by decide +kernel)
theorem w_737 : Cond.instanceMethod yX6_years ∈ WB := inWB 737 (by decide +kernel) (by decide +kernel)
theorem w_738 : Cond.selects RX6 yX6_years yX6_years ∈ WB := inWB 738 (by decide +kernel) (by decide +kernel)
theorem w_739 : Cond.code yX6_years cX6_years 2 (some .int) ∈ WB := inWB 739 (by decide +kernel) (by decide +kernel)
theorem w_1110 : Cond.methodLink RL 91 yX7_years ∈ WB := inWB 1110 (by decide +kernel) (by decide +kernel)
theorem w_1111 : Cond.instanceMethod yX7_years ∈ WB := inWB 1111 (by decide +kernel) (by decide +kernel)
theorem w_1112 : Cond.selects RX7 yX7_years yX7_years ∈ WB := inWB 1112 (by decide +kernel) (by decide +kernel)
theorem w_1113 : Cond.code yX7_years cX7_years 2 (some .int) ∈ WB := inWB 1113 (by decide +kernel) (by decide +kernel)
theorem w_741 : Cond.methodLink RL 92 yX6_seen ∈ WB := inWB 741 (by decide +kernel) (by decide +kernel)
theorem w_742 : Cond.instanceMethod yX6_seen ∈ WB := inWB 742 (by decide +kernel) (by decide +kernel)
theorem w_743 : Cond.selects RX6 yX6_seen yX6_seen ∈ WB := inWB 743 (by decide +kernel) (by decide +kernel)
theorem w_744 : Cond.code yX6_seen cX6_seen 3 (some .int) ∈ WB := inWB 744 (by decide +kernel) (by decide +kernel)
theorem w_1114 : Cond.methodLink RL 95 yX7_seen ∈ WB := inWB 1114 (by decide +kernel) (by decide +kernel)
theorem w_1115 : Cond.instanceMethod yX7_seen ∈ WB := inWB 1115 (by decide +kernel) (by decide +kernel)
theorem w_1116 : Cond.selects RX7 yX7_seen yX7_seen ∈ WB := inWB 1116 (by decide +kernel) (by decide +kernel)
theorem w_1117 : Cond.code yX7_seen cX7_seen 3 (some .int) ∈ WB := inWB 1117 (by decide +kernel) (by decide +kernel)
theorem w_745 : Cond.methodLink RL 96 yX6_forget ∈ WB := inWB 745 (by decide +kernel) (by decide +kernel)
theorem w_746 : Cond.instanceMethod yX6_forget ∈ WB := inWB 746 (by decide +kernel) (by decide +kernel)
theorem w_747 : Cond.selects RX6 yX6_forget yX6_forget ∈ WB := inWB 747 (by decide +kernel) (by decide +kernel)
theorem w_748 : Cond.code yX6_forget cX6_forget 2 (some .int) ∈ WB := inWB 748 (by decide +kernel) (by decide +kernel)
theorem w_1118 : Cond.methodLink RL 99 yX7_forget ∈ WB := inWB 1118 (by decide +kernel) (by decide +kernel)
theorem w_1119 : Cond.instanceMethod yX7_forget ∈ WB := inWB 1119 (by decide +kernel) (by decide +kernel)
theorem w_1120 : Cond.selects RX7 yX7_forget yX7_forget ∈ WB := inWB 1120 (by decide +kernel) (by decide +kernel)
theorem w_1121 : Cond.code yX7_forget cX7_forget 2 (some .int) ∈ WB := inWB 1121 (by decide +kernel) (by decide +kernel)
theorem w_749 : Cond.methodLink RL 100 yX6_stood ∈ WB := inWB 749 (by decide +kernel) (by decide +kernel)
theorem w_750 : Cond.instanceMethod yX6_stood ∈ WB := inWB 750 (by decide +kernel) (by decide +kernel)
theorem w_751 : Cond.selects RX6 yX6_stood yX6_stood ∈ WB := inWB 751 (by decide +kernel) (by decide +kernel)
theorem w_752 : Cond.code yX6_stood cX6_stood 4 (some .int) ∈ WB := inWB 752 (by decide +kernel) (by decide +kernel)
theorem w_1122 : Cond.methodLink RL 103 yX7_stood ∈ WB := inWB 1122 (by decide +kernel) (by decide +kernel)
theorem w_1123 : Cond.instanceMethod yX7_stood ∈ WB := inWB 1123 (by decide +kernel) (by decide +kernel)
theorem w_1124 : Cond.selects RX7 yX7_stood yX7_stood ∈ WB := inWB 1124 (by decide +kernel) (by decide +kernel)
theorem w_1125 : Cond.code yX7_stood cX7_stood 4 (some .int) ∈ WB := inWB 1125 (by decide +kernel) (by decide +kernel)
theorem w_759 : Cond.methodLink RL 104 yX6_rain ∈ WB := inWB 759 (by decide +kernel) (by decide +kernel)
theorem w_760 : Cond.instanceMethod yX6_rain ∈ WB := inWB 760 (by decide +kernel) (by decide +kernel)
theorem w_761 : Cond.selects RX6 yX6_rain yX6_rain ∈ WB := inWB 761 (by decide +kernel) (by decide +kernel)
theorem w_762 : Cond.code yX6_rain cX6_rain 7 (some .int) ∈ WB := inWB 762 (by decide +kernel) (by decide +kernel)
theorem w_1130 : Cond.methodLink RL 107 yX7_rain ∈ WB := inWB 1130 (by decide +kernel) (by decide +kernel)
theorem w_1131 : Cond.instanceMethod yX7_rain ∈ WB := inWB 1131 (by decide +kernel) (by decide +kernel)
theorem w_1132 : Cond.selects RX7 yX7_rain yX7_rain ∈ WB := inWB 1132 (by decide +kernel) (by decide +kernel)
theorem w_1133 : Cond.code yX7_rain cX7_rain 7 (some .int) ∈ WB := inWB 1133 (by decide +kernel) (by decide +kernel)
theorem w_765 : Cond.methodLink RL 108 yX6_century ∈ WB := inWB 765 (by decide +kernel) (by decide +kernel)
theorem w_766 : Cond.instanceMethod yX6_century ∈ WB := inWB 766 (by decide +kernel) (by decide +kernel)
theorem w_767 : Cond.selects RX6 yX6_century yX6_century ∈ WB := inWB 767 (by decide +kernel) (by decide +kernel)
theorem w_768 : Cond.code yX6_century cX6_century 7 (some .int) ∈ WB := inWB 768 (by decide +kernel) (by decide +kernel)
theorem w_1136 : Cond.methodLink RL 112 yX7_century ∈ WB := inWB 1136 (by decide +kernel) (by decide +kernel)
theorem w_1137 : Cond.instanceMethod yX7_century ∈ WB := inWB 1137 (by decide +kernel) (by decide +kernel)
theorem w_1138 : Cond.selects RX7 yX7_century yX7_century ∈ WB := inWB 1138 (by decide +kernel) (by decide +kernel)
theorem w_1139 : Cond.code yX7_century cX7_century 8 (some .int) ∈ WB := inWB 1139 (by decide +kernel) (by decide +kernel)
theorem w_782 : Cond.methodLink RL 113 yX6_keep ∈ WB := inWB 782 (by decide +kernel) (by decide +kernel)
theorem w_783 : Cond.instanceMethod yX6_keep ∈ WB := inWB 783 (by decide +kernel) (by decide +kernel)
theorem w_784 : Cond.selects RX6 yX6_keep yX6_keep ∈ WB := inWB 784 (by decide +kernel) (by decide +kernel)
theorem w_785 : Cond.code yX6_keep cX6_keep 1 (some .int) ∈ WB := inWB 785 (by decide +kernel) (by decide +kernel)
theorem w_1150 : Cond.methodLink RL 116 yX7_keep ∈ WB := inWB 1150 (by decide +kernel) (by decide +kernel)
theorem w_1151 : Cond.instanceMethod yX7_keep ∈ WB := inWB 1151 (by decide +kernel) (by decide +kernel)
theorem w_1152 : Cond.selects RX7 yX7_keep yX7_keep ∈ WB := inWB 1152 (by decide +kernel) (by decide +kernel)
theorem w_1153 : Cond.code yX7_keep cX7_keep 1 (some .int) ∈ WB := inWB 1153 (by decide +kernel) (by decide +kernel)
theorem w_787 : Cond.methodLink RL 117 yX6_back ∈ WB := inWB 787 (by decide +kernel) (by decide +kernel)
theorem w_788 : Cond.instanceMethod yX6_back ∈ WB := inWB 788 (by decide +kernel) (by decide +kernel)
theorem w_789 : Cond.selects RX6 yX6_back yX6_back ∈ WB := inWB 789 (by decide +kernel) (by decide +kernel)
theorem w_790 : Cond.code yX6_back cX6_back 1 (some .int) ∈ WB := inWB 790 (by decide +kernel) (by decide +kernel)
theorem w_1154 : Cond.methodLink RL 120 yX7_back ∈ WB := inWB 1154 (by decide +kernel) (by decide +kernel)
theorem w_1155 : Cond.instanceMethod yX7_back ∈ WB := inWB 1155 (by decide +kernel) (by decide +kernel)
theorem w_1156 : Cond.selects RX7 yX7_back yX7_back ∈ WB := inWB 1156 (by decide +kernel) (by decide +kernel)
theorem w_1157 : Cond.code yX7_back cX7_back 1 (some .int) ∈ WB := inWB 1157 (by decide +kernel) (by decide +kernel)
theorem w_791 : Cond.methodLink RL 121 yX6_count ∈ WB := inWB 791 (by decide +kernel) (by decide +kernel)
theorem w_792 : Cond.instanceMethod yX6_count ∈ WB := inWB 792 (by decide +kernel) (by decide +kernel)
theorem w_793 : Cond.selects RX6 yX6_count yX6_count ∈ WB := inWB 793 (by decide +kernel) (by decide +kernel)
theorem w_794 : Cond.code yX6_count cX6_count 2 (some .int) ∈ WB := inWB 794 (by decide +kernel) (by decide +kernel)
theorem w_1158 : Cond.methodLink RL 124 yX7_count ∈ WB := inWB 1158 (by decide +kernel) (by decide +kernel)
theorem w_1159 : Cond.instanceMethod yX7_count ∈ WB := inWB 1159 (by decide +kernel) (by decide +kernel)
theorem w_1160 : Cond.selects RX7 yX7_count yX7_count ∈ WB := inWB 1160 (by decide +kernel) (by decide +kernel)
theorem w_1161 : Cond.code yX7_count cX7_count 2 (some .int) ∈ WB := inWB 1161 (by decide +kernel) (by decide +kernel)
theorem w_806 : Cond.methodLink RX7 71 yX7_layBird ∈ WB := inWB 806 (by decide +kernel) (by decide +kernel)
theorem w_808 : Cond.instanceMethod yX7_layBird ∈ WB := inWB 808 (by decide +kernel) (by decide +kernel)
theorem w_19 : Cond.selects RX7 yX7_layBird yX7_layBird ∈ WB := inWB 19 (by decide +kernel) (by decide +kernel)
theorem w_809 : Cond.code yX7_layBird cX7_layBird 6 none ∈ WB := inWB 809 (by decide +kernel) (by decide +kernel)
theorem w_810 : Cond.methodLink RX7 75 yX7_begin ∈ WB := inWB 810 (by decide +kernel) (by decide +kernel)
theorem w_812 : Cond.instanceMethod yX7_begin ∈ WB := inWB 812 (by decide +kernel) (by decide +kernel)
theorem w_20 : Cond.selects RX7 yX7_begin yX7_begin ∈ WB := inWB 20 (by decide +kernel) (by decide +kernel)
theorem w_813 : Cond.code yX7_begin cX7_begin 2 none ∈ WB := inWB 813 (by decide +kernel) (by decide +kernel)
theorem w_918 : Cond.methodLink RX7 87 yX7_in ∈ WB := inWB 918 (by decide +kernel) (by decide +kernel)
theorem w_919 : Cond.static yX7_in ∈ WB := inWB 919 (by decide +kernel) (by decide +kernel)
theorem w_920 : Cond.code yX7_in cX7_in 3 (some .boolean) ∈ WB := inWB 920 (by decide +kernel) (by decide +kernel)
theorem w_937 : Cond.methodLink RX7 100 yX7_letterAt ∈ WB := inWB 937 (by decide +kernel) (by decide +kernel)
theorem w_939 : Cond.instanceMethod yX7_letterAt ∈ WB := inWB 939 (by decide +kernel) (by decide +kernel)
theorem w_23 : Cond.selects RX7 yX7_letterAt yX7_letterAt ∈ WB := inWB 23 (by decide +kernel) (by decide +kernel)
theorem w_940 : Cond.code yX7_letterAt cX7_letterAt 2 (some .int) ∈ WB := inWB 940 (by decide +kernel) (by decide +kernel)
theorem w_941 : Cond.methodLink RX7 107 yX7_isRow ∈ WB := inWB 941 (by decide +kernel) (by decide +kernel)
theorem w_943 : Cond.instanceMethod yX7_isRow ∈ WB := inWB 943 (by decide +kernel) (by decide +kernel)
theorem w_24 : Cond.selects RX7 yX7_isRow yX7_isRow ∈ WB := inWB 24 (by decide +kernel) (by decide +kernel)
theorem w_944 : Cond.code yX7_isRow cX7_isRow 4 (some .boolean) ∈ WB := inWB 944 (by decide +kernel) (by decide +kernel)
theorem w_933 : Cond.methodLink RX7 126 yX7_isItem ∈ WB := inWB 933 (by decide +kernel) (by decide +kernel)
theorem w_935 : Cond.instanceMethod yX7_isItem ∈ WB := inWB 935 (by decide +kernel) (by decide +kernel)
theorem w_22 : Cond.selects RX7 yX7_isItem yX7_isItem ∈ WB := inWB 22 (by decide +kernel) (by decide +kernel)
theorem w_936 : Cond.code yX7_isItem cX7_isItem 4 (some .boolean) ∈ WB := inWB 936 (by decide +kernel) (by decide +kernel)
theorem w_929 : Cond.methodLink RX7 130 yX7_isRead ∈ WB := inWB 929 (by decide +kernel) (by decide +kernel)
theorem w_931 : Cond.instanceMethod yX7_isRead ∈ WB := inWB 931 (by decide +kernel) (by decide +kernel)
theorem w_21 : Cond.selects RX7 yX7_isRead yX7_isRead ∈ WB := inWB 21 (by decide +kernel) (by decide +kernel)
theorem w_932 : Cond.code yX7_isRead cX7_isRead 1 (some .boolean) ∈ WB := inWB 932 (by decide +kernel) (by decide +kernel)
theorem w_953 : Cond.methodLink RX7 133 yX7_isBird ∈ WB := inWB 953 (by decide +kernel) (by decide +kernel)
theorem w_955 : Cond.instanceMethod yX7_isBird ∈ WB := inWB 955 (by decide +kernel) (by decide +kernel)
theorem w_25 : Cond.selects RX7 yX7_isBird yX7_isBird ∈ WB := inWB 25 (by decide +kernel) (by decide +kernel)
theorem w_956 : Cond.code yX7_isBird cX7_isBird 2 (some .boolean) ∈ WB := inWB 956 (by decide +kernel) (by decide +kernel)
theorem w_957 : Cond.methodLink RX7 136 yX7_placeIn ∈ WB := inWB 957 (by decide +kernel) (by decide +kernel)
theorem w_959 : Cond.instanceMethod yX7_placeIn ∈ WB := inWB 959 (by decide +kernel) (by decide +kernel)
theorem w_26 : Cond.selects RX7 yX7_placeIn yX7_placeIn ∈ WB := inWB 26 (by decide +kernel) (by decide +kernel)
theorem w_960 : Cond.code yX7_placeIn cX7_placeIn 3 (some .int) ∈ WB := inWB 960 (by decide +kernel) (by decide +kernel)
theorem w_965 : Cond.methodLink RX7 139 yX7_windIn ∈ WB := inWB 965 (by decide +kernel) (by decide +kernel)
theorem w_967 : Cond.instanceMethod yX7_windIn ∈ WB := inWB 967 (by decide +kernel) (by decide +kernel)
theorem w_27 : Cond.selects RX7 yX7_windIn yX7_windIn ∈ WB := inWB 27 (by decide +kernel) (by decide +kernel)
theorem w_968 : Cond.code yX7_windIn cX7_windIn 2 (some .int) ∈ WB := inWB 968 (by decide +kernel) (by decide +kernel)
theorem w_992 : Cond.methodLink RX7 142 yX7_firstOf ∈ WB := inWB 992 (by decide +kernel) (by decide +kernel)
theorem w_994 : Cond.instanceMethod yX7_firstOf ∈ WB := inWB 994 (by decide +kernel) (by decide +kernel)
theorem w_32 : Cond.selects RX7 yX7_firstOf yX7_firstOf ∈ WB := inWB 32 (by decide +kernel) (by decide +kernel)
theorem w_995 : Cond.code yX7_firstOf cX7_firstOf 5 (some .int) ∈ WB := inWB 995 (by decide +kernel) (by decide +kernel)
theorem w_1024 : Cond.methodLink RX7 146 yX7_spanned ∈ WB := inWB 1024 (by decide +kernel) (by decide +kernel)
theorem w_1026 : Cond.instanceMethod yX7_spanned ∈ WB := inWB 1026 (by decide +kernel) (by decide +kernel)
theorem w_39 : Cond.selects RX7 yX7_spanned yX7_spanned ∈ WB := inWB 39 (by decide +kernel) (by decide +kernel)
theorem w_1027 : Cond.code yX7_spanned cX7_spanned 3 (some .int) ∈ WB := inWB 1027 (by decide +kernel) (by decide +kernel)
theorem w_1000 : Cond.methodLink RX7 150 yX7_kindOf ∈ WB := inWB 1000 (by decide +kernel) (by decide +kernel)
theorem w_1002 : Cond.instanceMethod yX7_kindOf ∈ WB := inWB 1002 (by decide +kernel) (by decide +kernel)
theorem w_34 : Cond.selects RX7 yX7_kindOf yX7_kindOf ∈ WB := inWB 34 (by decide +kernel) (by decide +kernel)
theorem w_1003 : Cond.code yX7_kindOf cX7_kindOf 2 (some .int) ∈ WB := inWB 1003 (by decide +kernel) (by decide +kernel)
theorem w_1004 : Cond.methodLink RX7 153 yX7_isPair ∈ WB := inWB 1004 (by decide +kernel) (by decide +kernel)
theorem w_1006 : Cond.instanceMethod yX7_isPair ∈ WB := inWB 1006 (by decide +kernel) (by decide +kernel)
theorem w_35 : Cond.selects RX7 yX7_isPair yX7_isPair ∈ WB := inWB 35 (by decide +kernel) (by decide +kernel)
theorem w_1007 : Cond.code yX7_isPair cX7_isPair 3 (some .boolean) ∈ WB := inWB 1007 (by decide +kernel) (by decide +kernel)
theorem w_988 : Cond.methodLink RX7 157 yX7_holderOf ∈ WB := inWB 988 (by decide +kernel) (by decide +kernel)
theorem w_990 : Cond.instanceMethod yX7_holderOf ∈ WB := inWB 990 (by decide +kernel) (by decide +kernel)
theorem w_31 : Cond.selects RX7 yX7_holderOf yX7_holderOf ∈ WB := inWB 31 (by decide +kernel) (by decide +kernel)
theorem w_991 : Cond.code yX7_holderOf cX7_holderOf 5 (some .int) ∈ WB := inWB 991 (by decide +kernel) (by decide +kernel)
theorem w_996 : Cond.methodLink RX7 160 yX7_powerOf ∈ WB := inWB 996 (by decide +kernel) (by decide +kernel)
theorem w_998 : Cond.instanceMethod yX7_powerOf ∈ WB := inWB 998 (by decide +kernel) (by decide +kernel)
theorem w_33 : Cond.selects RX7 yX7_powerOf yX7_powerOf ∈ WB := inWB 33 (by decide +kernel) (by decide +kernel)
theorem w_999 : Cond.code yX7_powerOf cX7_powerOf 6 (some .int) ∈ WB := inWB 999 (by decide +kernel) (by decide +kernel)
theorem w_1051 : Cond.methodLink RX7 163 yX7_tire ∈ WB := inWB 1051 (by decide +kernel) (by decide +kernel)
theorem w_1053 : Cond.instanceMethod yX7_tire ∈ WB := inWB 1053 (by decide +kernel) (by decide +kernel)
theorem w_43 : Cond.selects RX7 yX7_tire yX7_tire ∈ WB := inWB 43 (by decide +kernel) (by decide +kernel)
theorem w_1054 : Cond.code yX7_tire cX7_tire 5 none ∈ WB := inWB 1054 (by decide +kernel) (by decide +kernel)
theorem w_973 : Cond.methodLink RX7 167 yX7_noLoads ∈ WB := inWB 973 (by decide +kernel) (by decide +kernel)
theorem w_975 : Cond.instanceMethod yX7_noLoads ∈ WB := inWB 975 (by decide +kernel) (by decide +kernel)
theorem w_28 : Cond.selects RX7 yX7_noLoads yX7_noLoads ∈ WB := inWB 28 (by decide +kernel) (by decide +kernel)
theorem w_976 : Cond.code yX7_noLoads cX7_noLoads 2 none ∈ WB := inWB 976 (by decide +kernel) (by decide +kernel)
theorem w_977 : Cond.methodLink RX7 170 yX7_isOn ∈ WB := inWB 977 (by decide +kernel) (by decide +kernel)
theorem w_978 : Cond.static yX7_isOn ∈ WB := inWB 978 (by decide +kernel) (by decide +kernel)
theorem w_979 : Cond.code yX7_isOn cX7_isOn 2 (some .boolean) ∈ WB := inWB 979 (by decide +kernel) (by decide +kernel)
theorem w_980 : Cond.methodLink RX7 174 yX7_weightIn ∈ WB := inWB 980 (by decide +kernel) (by decide +kernel)
theorem w_982 : Cond.instanceMethod yX7_weightIn ∈ WB := inWB 982 (by decide +kernel) (by decide +kernel)
theorem w_29 : Cond.selects RX7 yX7_weightIn yX7_weightIn ∈ WB := inWB 29 (by decide +kernel) (by decide +kernel)
theorem w_983 : Cond.code yX7_weightIn cX7_weightIn 2 (some .int) ∈ WB := inWB 983 (by decide +kernel) (by decide +kernel)
theorem w_984 : Cond.methodLink RX7 177 yX7_bear ∈ WB := inWB 984 (by decide +kernel) (by decide +kernel)
theorem w_986 : Cond.instanceMethod yX7_bear ∈ WB := inWB 986 (by decide +kernel) (by decide +kernel)
theorem w_30 : Cond.selects RX7 yX7_bear yX7_bear ∈ WB := inWB 30 (by decide +kernel) (by decide +kernel)
theorem w_987 : Cond.code yX7_bear cX7_bear 7 none ∈ WB := inWB 987 (by decide +kernel) (by decide +kernel)
theorem w_1047 : Cond.methodLink RX7 181 yX7_holds ∈ WB := inWB 1047 (by decide +kernel) (by decide +kernel)
theorem w_1049 : Cond.instanceMethod yX7_holds ∈ WB := inWB 1049 (by decide +kernel) (by decide +kernel)
theorem w_42 : Cond.selects RX7 yX7_holds yX7_holds ∈ WB := inWB 42 (by decide +kernel) (by decide +kernel)
theorem w_1050 : Cond.code yX7_holds cX7_holds 3 (some .boolean) ∈ WB := inWB 1050 (by decide +kernel) (by decide +kernel)
theorem w_1032 : Cond.methodLink RX7 185 yX7_copy ∈ WB := inWB 1032 (by decide +kernel) (by decide +kernel)
theorem w_1033 : Cond.static yX7_copy ∈ WB := inWB 1033 (by decide +kernel) (by decide +kernel)
theorem w_1034 : Cond.code yX7_copy cX7_copy 5 none ∈ WB := inWB 1034 (by decide +kernel) (by decide +kernel)
theorem w_1020 : Cond.methodLink RX7 189 yX7_isWhole ∈ WB := inWB 1020 (by decide +kernel) (by decide +kernel)
theorem w_1022 : Cond.instanceMethod yX7_isWhole ∈ WB := inWB 1022 (by decide +kernel) (by decide +kernel)
theorem w_38 : Cond.selects RX7 yX7_isWhole yX7_isWhole ∈ WB := inWB 38 (by decide +kernel) (by decide +kernel)
theorem w_1023 : Cond.code yX7_isWhole cX7_isWhole 2 (some .boolean) ∈ WB := inWB 1023 (by decide +kernel) (by decide +kernel)
theorem w_1012 : Cond.methodLink RX7 192 yX7_isShut ∈ WB := inWB 1012 (by decide +kernel) (by decide +kernel)
theorem w_1014 : Cond.instanceMethod yX7_isShut ∈ WB := inWB 1014 (by decide +kernel) (by decide +kernel)
theorem w_36 : Cond.selects RX7 yX7_isShut yX7_isShut ∈ WB := inWB 36 (by decide +kernel) (by decide +kernel)
theorem w_1015 : Cond.code yX7_isShut cX7_isShut 1 (some .boolean) ∈ WB := inWB 1015 (by decide +kernel) (by decide +kernel)
theorem w_1016 : Cond.methodLink RX7 195 yX7_mayJoin ∈ WB := inWB 1016 (by decide +kernel) (by decide +kernel)
theorem w_1018 : Cond.instanceMethod yX7_mayJoin ∈ WB := inWB 1018 (by decide +kernel) (by decide +kernel)
theorem w_37 : Cond.selects RX7 yX7_mayJoin yX7_mayJoin ∈ WB := inWB 37 (by decide +kernel) (by decide +kernel)
theorem w_1019 : Cond.code yX7_mayJoin cX7_mayJoin 6 (some .boolean) ∈ WB := inWB 1019 (by decide +kernel) (by decide +kernel)
theorem w_1028 : Cond.methodLink RX7 198 yX7_note ∈ WB := inWB 1028 (by decide +kernel) (by decide +kernel)
theorem w_1030 : Cond.instanceMethod yX7_note ∈ WB := inWB 1030 (by decide +kernel) (by decide +kernel)
theorem w_40 : Cond.selects RX7 yX7_note yX7_note ∈ WB := inWB 40 (by decide +kernel) (by decide +kernel)
theorem w_1031 : Cond.code yX7_note cX7_note 2 none ∈ WB := inWB 1031 (by decide +kernel) (by decide +kernel)
theorem w_1043 : Cond.methodLink RX7 201 yX7_passes ∈ WB := inWB 1043 (by decide +kernel) (by decide +kernel)
theorem w_1045 : Cond.instanceMethod yX7_passes ∈ WB := inWB 1045 (by decide +kernel) (by decide +kernel)
theorem w_41 : Cond.selects RX7 yX7_passes yX7_passes ∈ WB := inWB 41 (by decide +kernel) (by decide +kernel)
theorem w_1046 : Cond.code yX7_passes cX7_passes 4 (some .boolean) ∈ WB := inWB 1046 (by decide +kernel) (by decide +kernel)
theorem w_1071 : Cond.methodLink RX7 204 yX7_goesOver ∈ WB := inWB 1071 (by decide +kernel) (by decide +kernel)
theorem w_1073 : Cond.instanceMethod yX7_goesOver ∈ WB := inWB 1073 (by decide +kernel) (by decide +kernel)
theorem w_44 : Cond.selects RX7 yX7_goesOver yX7_goesOver ∈ WB := inWB 44 (by decide +kernel) (by decide +kernel)
theorem w_1074 : Cond.code yX7_goesOver cX7_goesOver 2 (some .boolean) ∈ WB := inWB 1074 (by decide +kernel) (by decide +kernel)
theorem w_1087 : Cond.methodLink RX7 207 yX7_freshen ∈ WB := inWB 1087 (by decide +kernel) (by decide +kernel)
theorem w_1089 : Cond.instanceMethod yX7_freshen ∈ WB := inWB 1089 (by decide +kernel) (by decide +kernel)
theorem w_47 : Cond.selects RX7 yX7_freshen yX7_freshen ∈ WB := inWB 47 (by decide +kernel) (by decide +kernel)
theorem w_1090 : Cond.code yX7_freshen cX7_freshen 3 none ∈ WB := inWB 1090 (by decide +kernel) (by decide +kernel)
theorem w_1083 : Cond.methodLink RX7 213 yX7_findOf ∈ WB := inWB 1083 (by decide +kernel) (by decide +kernel)
theorem w_1085 : Cond.instanceMethod yX7_findOf ∈ WB := inWB 1085 (by decide +kernel) (by decide +kernel)
theorem w_46 : Cond.selects RX7 yX7_findOf yX7_findOf ∈ WB := inWB 46 (by decide +kernel) (by decide +kernel)
theorem w_1086 : Cond.code yX7_findOf cX7_findOf 5 (some .boolean) ∈ WB := inWB 1086 (by decide +kernel) (by decide +kernel)
theorem w_1079 : Cond.methodLink RX7 216 yX7_layFewest ∈ WB := inWB 1079 (by decide +kernel) (by decide +kernel)
theorem w_1081 : Cond.instanceMethod yX7_layFewest ∈ WB := inWB 1081 (by decide +kernel) (by decide +kernel)
theorem w_45 : Cond.selects RX7 yX7_layFewest yX7_layFewest ∈ WB := inWB 45 (by decide +kernel) (by decide +kernel)
theorem w_1082 : Cond.code yX7_layFewest cX7_layFewest 3 none ∈ WB := inWB 1082 (by decide +kernel) (by decide +kernel)
theorem w_1099 : Cond.methodLink RX7 219 yX7_has ∈ WB := inWB 1099 (by decide +kernel) (by decide +kernel)
theorem w_1100 : Cond.static yX7_has ∈ WB := inWB 1100 (by decide +kernel) (by decide +kernel)
theorem w_1101 : Cond.code yX7_has cX7_has 2 (some .boolean) ∈ WB := inWB 1101 (by decide +kernel) (by decide +kernel)
theorem w_1106 : Cond.methodLink RX7 222 yX7_bothGo ∈ WB := inWB 1106 (by decide +kernel) (by decide +kernel)
theorem w_1108 : Cond.instanceMethod yX7_bothGo ∈ WB := inWB 1108 (by decide +kernel) (by decide +kernel)
theorem w_48 : Cond.selects RX7 yX7_bothGo yX7_bothGo ∈ WB := inWB 48 (by decide +kernel) (by decide +kernel)
theorem w_1109 : Cond.code yX7_bothGo cX7_bothGo 7 (some .boolean) ∈ WB := inWB 1109 (by decide +kernel) (by decide +kernel)
theorem w_1126 : Cond.methodLink RX7 225 yX7_isStood ∈ WB := inWB 1126 (by decide +kernel) (by decide +kernel)
theorem w_1128 : Cond.instanceMethod yX7_isStood ∈ WB := inWB 1128 (by decide +kernel) (by decide +kernel)
theorem w_49 : Cond.selects RX7 yX7_isStood yX7_isStood ∈ WB := inWB 49 (by decide +kernel) (by decide +kernel)
theorem w_1129 : Cond.code yX7_isStood cX7_isStood 5 (some .boolean) ∈ WB := inWB 1129 (by decide +kernel) (by decide +kernel)
theorem w_1140 : Cond.methodLink RX7 244 yX7_comesOver ∈ WB := inWB 1140 (by decide +kernel) (by decide +kernel)
theorem w_1142 : Cond.instanceMethod yX7_comesOver ∈ WB := inWB 1142 (by decide +kernel) (by decide +kernel)
theorem w_50 : Cond.selects RX7 yX7_comesOver yX7_comesOver ∈ WB := inWB 50 (by decide +kernel) (by decide +kernel)
theorem w_1143 : Cond.code yX7_comesOver cX7_comesOver 6 (some .boolean) ∈ WB := inWB 1143 (by decide +kernel) (by decide +kernel)
theorem w_763 : Cond.constantLong RX6 241 (1000000) ∈ WB := inWB 763 (by decide +kernel) (by decide +kernel)
theorem w_764 : Cond.constantLong RX6 243 (10) ∈ WB := inWB 764 (by decide +kernel) (by decide +kernel)
theorem w_776 : Cond.constantLong RX6 283 (7919) ∈ WB := inWB 776 (by decide +kernel) (by decide +kernel)
theorem w_777 : Cond.constantLong RX6 285 (6151) ∈ WB := inWB 777 (by decide +kernel) (by decide +kernel)
theorem w_778 : Cond.constantLong RX6 287 (331) ∈ WB := inWB 778 (by decide +kernel) (by decide +kernel)
theorem w_779 : Cond.constantLong RX6 289 (65521) ∈ WB := inWB 779 (by decide +kernel) (by decide +kernel)
theorem w_780 : Cond.constantLong RX6 291 (8) ∈ WB := inWB 780 (by decide +kernel) (by decide +kernel)
theorem w_781 : Cond.constantLong RX6 293 (21) ∈ WB := inWB 781 (by decide +kernel) (by decide +kernel)
theorem w_1134 : Cond.constantLong RX7 228 (1000000) ∈ WB := inWB 1134 (by decide +kernel) (by decide +kernel)
theorem w_1135 : Cond.constantLong RX7 230 (10) ∈ WB := inWB 1135 (by decide +kernel) (by decide +kernel)
theorem w_1144 : Cond.constantLong RX7 232 (7919) ∈ WB := inWB 1144 (by decide +kernel) (by decide +kernel)
theorem w_1145 : Cond.constantLong RX7 234 (6151) ∈ WB := inWB 1145 (by decide +kernel) (by decide +kernel)
theorem w_1146 : Cond.constantLong RX7 236 (331) ∈ WB := inWB 1146 (by decide +kernel) (by decide +kernel)
theorem w_1147 : Cond.constantLong RX7 238 (65521) ∈ WB := inWB 1147 (by decide +kernel) (by decide +kernel)
theorem w_1148 : Cond.constantLong RX7 240 (8) ∈ WB := inWB 1148 (by decide +kernel) (by decide +kernel)
theorem w_1149 : Cond.constantLong RX7 242 (21) ∈ WB := inWB 1149 (by decide +kernel) (by decide +kernel)
end
section
theorem iw_X0 : ∀ w ∈ u_ws RX0 TX0 5, w ∈ WB := by
  intro w hw
  obtain ⟨k, hk, rfl⟩ := List.mem_map.mp hw
  have hk := List.mem_range.mp hk
  rcases (show k = 0 ∨ k = 1 ∨ k = 2 ∨ k = 3 ∨ k = 4 by omega) with rfl | rfl | rfl | rfl | rfl
  · exact inWB 150 (by decide +kernel) (by decide +kernel)
  · exact inWB 152 (by decide +kernel) (by decide +kernel)
  · exact inWB 154 (by decide +kernel) (by decide +kernel)
  · exact inWB 156 (by decide +kernel) (by decide +kernel)
  · exact inWB 158 (by decide +kernel) (by decide +kernel)
theorem cl_X0 : CLS 0 RX0 TX0 5 tyX0 := ⟨rfl, iw_X0, rfl, tyX0_ok, nmX0⟩
theorem iw_X1 : ∀ w ∈ u_ws RX1 TX1 10, w ∈ WB := by
  intro w hw
  obtain ⟨k, hk, rfl⟩ := List.mem_map.mp hw
  have hk := List.mem_range.mp hk
  rcases (show k = 0 ∨ k = 1 ∨ k = 2 ∨ k = 3 ∨ k = 4 ∨ k = 5 ∨ k = 6 ∨ k = 7 ∨ k = 8 ∨ k = 9 by omega) with rfl | rfl | rfl | rfl | rfl | rfl | rfl | rfl | rfl | rfl
  · exact inWB 112 (by decide +kernel) (by decide +kernel)
  · exact inWB 114 (by decide +kernel) (by decide +kernel)
  · exact inWB 116 (by decide +kernel) (by decide +kernel)
  · exact inWB 118 (by decide +kernel) (by decide +kernel)
  · exact inWB 120 (by decide +kernel) (by decide +kernel)
  · exact inWB 122 (by decide +kernel) (by decide +kernel)
  · exact inWB 124 (by decide +kernel) (by decide +kernel)
  · exact inWB 126 (by decide +kernel) (by decide +kernel)
  · exact inWB 128 (by decide +kernel) (by decide +kernel)
  · exact inWB 130 (by decide +kernel) (by decide +kernel)
theorem cl_X1 : CLS 1 RX1 TX1 10 tyX1 := ⟨rfl, iw_X1, rfl, tyX1_ok, nmX1⟩
theorem iw_X2 : ∀ w ∈ u_ws RX2 TX2 6, w ∈ WB := by
  intro w hw
  obtain ⟨k, hk, rfl⟩ := List.mem_map.mp hw
  have hk := List.mem_range.mp hk
  rcases (show k = 0 ∨ k = 1 ∨ k = 2 ∨ k = 3 ∨ k = 4 ∨ k = 5 by omega) with rfl | rfl | rfl | rfl | rfl | rfl
  · exact inWB 167 (by decide +kernel) (by decide +kernel)
  · exact inWB 169 (by decide +kernel) (by decide +kernel)
  · exact inWB 171 (by decide +kernel) (by decide +kernel)
  · exact inWB 173 (by decide +kernel) (by decide +kernel)
  · exact inWB 175 (by decide +kernel) (by decide +kernel)
  · exact inWB 177 (by decide +kernel) (by decide +kernel)
theorem cl_X2 : CLS 2 RX2 TX2 6 tyX2 := ⟨rfl, iw_X2, rfl, tyX2_ok, nmX2⟩
theorem iw_X3 : ∀ w ∈ u_ws RX3 TX3 3, w ∈ WB := by
  intro w hw
  obtain ⟨k, hk, rfl⟩ := List.mem_map.mp hw
  have hk := List.mem_range.mp hk
  rcases (show k = 0 ∨ k = 1 ∨ k = 2 by omega) with rfl | rfl | rfl
  · exact inWB 83 (by decide +kernel) (by decide +kernel)
  · exact inWB 85 (by decide +kernel) (by decide +kernel)
  · exact inWB 87 (by decide +kernel) (by decide +kernel)
theorem cl_X3 : CLS 3 RX3 TX3 3 tyX3 := ⟨rfl, iw_X3, rfl, tyX3_ok, nmX3⟩
theorem iw_X4 : ∀ w ∈ u_ws RX4 TX4 5, w ∈ WB := by
  intro w hw
  obtain ⟨k, hk, rfl⟩ := List.mem_map.mp hw
  have hk := List.mem_range.mp hk
  rcases (show k = 0 ∨ k = 1 ∨ k = 2 ∨ k = 3 ∨ k = 4 by omega) with rfl | rfl | rfl | rfl | rfl
  · exact inWB 214 (by decide +kernel) (by decide +kernel)
  · exact inWB 216 (by decide +kernel) (by decide +kernel)
  · exact inWB 218 (by decide +kernel) (by decide +kernel)
  · exact inWB 220 (by decide +kernel) (by decide +kernel)
  · exact inWB 222 (by decide +kernel) (by decide +kernel)
theorem cl_X4 : CLS 4 RX4 TX4 5 tyX4 := ⟨rfl, iw_X4, rfl, tyX4_ok, nmX4⟩
theorem iw_X5 : ∀ w ∈ u_ws RX5 TX5 2, w ∈ WB := by
  intro w hw
  obtain ⟨k, hk, rfl⟩ := List.mem_map.mp hw
  have hk := List.mem_range.mp hk
  rcases (show k = 0 ∨ k = 1 by omega) with rfl | rfl
  · exact inWB 196 (by decide +kernel) (by decide +kernel)
  · exact inWB 198 (by decide +kernel) (by decide +kernel)
theorem cl_X5 : CLS 5 RX5 TX5 2 tyX5 := ⟨rfl, iw_X5, rfl, tyX5_ok, nmX5⟩
theorem iw_X6 : ∀ w ∈ u_ws RX6 TX6 11, w ∈ WB := by
  intro w hw
  obtain ⟨k, hk, rfl⟩ := List.mem_map.mp hw
  have hk := List.mem_range.mp hk
  rcases (show k = 0 ∨ k = 1 ∨ k = 2 ∨ k = 3 ∨ k = 4 ∨ k = 5 ∨ k = 6 ∨ k = 7 ∨ k = 8 ∨ k = 9 ∨ k = 10 by omega) with rfl | rfl | rfl | rfl | rfl | rfl | rfl | rfl | rfl | rfl | rfl
  · exact inWB 340 (by decide +kernel) (by decide +kernel)
  · exact inWB 342 (by decide +kernel) (by decide +kernel)
  · exact inWB 344 (by decide +kernel) (by decide +kernel)
  · exact inWB 346 (by decide +kernel) (by decide +kernel)
  · exact inWB 348 (by decide +kernel) (by decide +kernel)
  · exact inWB 350 (by decide +kernel) (by decide +kernel)
  · exact inWB 352 (by decide +kernel) (by decide +kernel)
  · exact inWB 354 (by decide +kernel) (by decide +kernel)
  · exact inWB 356 (by decide +kernel) (by decide +kernel)
  · exact inWB 358 (by decide +kernel) (by decide +kernel)
  · exact inWB 360 (by decide +kernel) (by decide +kernel)
theorem cl_X6 : CLS 6 RX6 TX6 11 tyX6 := ⟨rfl, iw_X6, rfl, tyX6_ok, nmX6⟩
theorem iw_X7 : ∀ w ∈ u_ws RX7 TX7 33, w ∈ WB := by
  intro w hw
  obtain ⟨k, hk, rfl⟩ := List.mem_map.mp hw
  have hk := List.mem_range.mp hk
  rcases (show k = 0 ∨ k = 1 ∨ k = 2 ∨ k = 3 ∨ k = 4 ∨ k = 5 ∨ k = 6 ∨ k = 7 ∨ k = 8 ∨ k = 9 ∨ k = 10 ∨ k = 11 ∨ k = 12 ∨ k = 13 ∨ k = 14 ∨ k = 15 ∨ k = 16 ∨ k = 17 ∨ k = 18 ∨ k = 19 ∨ k = 20 ∨ k = 21 ∨ k = 22 ∨ k = 23 ∨ k = 24 ∨ k = 25 ∨ k = 26 ∨ k = 27 ∨ k = 28 ∨ k = 29 ∨ k = 30 ∨ k = 31 ∨ k = 32 by omega) with rfl | rfl | rfl | rfl | rfl | rfl | rfl | rfl | rfl | rfl | rfl | rfl | rfl | rfl | rfl | rfl | rfl | rfl | rfl | rfl | rfl | rfl | rfl | rfl | rfl | rfl | rfl | rfl | rfl | rfl | rfl | rfl | rfl
  · exact inWB 847 (by decide +kernel) (by decide +kernel)
  · exact inWB 849 (by decide +kernel) (by decide +kernel)
  · exact inWB 851 (by decide +kernel) (by decide +kernel)
  · exact inWB 853 (by decide +kernel) (by decide +kernel)
  · exact inWB 855 (by decide +kernel) (by decide +kernel)
  · exact inWB 857 (by decide +kernel) (by decide +kernel)
  · exact inWB 859 (by decide +kernel) (by decide +kernel)
  · exact inWB 861 (by decide +kernel) (by decide +kernel)
  · exact inWB 863 (by decide +kernel) (by decide +kernel)
  · exact inWB 865 (by decide +kernel) (by decide +kernel)
  · exact inWB 867 (by decide +kernel) (by decide +kernel)
  · exact inWB 869 (by decide +kernel) (by decide +kernel)
  · exact inWB 871 (by decide +kernel) (by decide +kernel)
  · exact inWB 873 (by decide +kernel) (by decide +kernel)
  · exact inWB 875 (by decide +kernel) (by decide +kernel)
  · exact inWB 877 (by decide +kernel) (by decide +kernel)
  · exact inWB 879 (by decide +kernel) (by decide +kernel)
  · exact inWB 881 (by decide +kernel) (by decide +kernel)
  · exact inWB 883 (by decide +kernel) (by decide +kernel)
  · exact inWB 885 (by decide +kernel) (by decide +kernel)
  · exact inWB 887 (by decide +kernel) (by decide +kernel)
  · exact inWB 889 (by decide +kernel) (by decide +kernel)
  · exact inWB 891 (by decide +kernel) (by decide +kernel)
  · exact inWB 893 (by decide +kernel) (by decide +kernel)
  · exact inWB 895 (by decide +kernel) (by decide +kernel)
  · exact inWB 897 (by decide +kernel) (by decide +kernel)
  · exact inWB 899 (by decide +kernel) (by decide +kernel)
  · exact inWB 901 (by decide +kernel) (by decide +kernel)
  · exact inWB 903 (by decide +kernel) (by decide +kernel)
  · exact inWB 905 (by decide +kernel) (by decide +kernel)
  · exact inWB 907 (by decide +kernel) (by decide +kernel)
  · exact inWB 909 (by decide +kernel) (by decide +kernel)
  · exact inWB 911 (by decide +kernel) (by decide +kernel)
theorem cl_X7 : CLS 7 RX7 TX7 33 tyX7 := ⟨rfl, iw_X7, rfl, tyX7_ok, nmX7⟩
def Fl (R : List Nat) (f : Nat) : Prop := OB R f 1 ∧ IA R (f + 1) 8 ∧ IA R (f + 2) 8 ∧ IA R (f + 3) 8 ∧ IA R (f + 4) 8 ∧ IA R (f + 5) 8
def Br (R : List Nat) (b : Nat) : Prop := OB R b 0 ∧ IA R (b + 1) 8 ∧ IA R (b + 2) 8 ∧ IA R (b + 3) 8 ∧ Fl R 4
def Nt (R : List Nat) (n : Nat) : Prop := OB R n 2 ∧ Br R (n + 1)
def ntL : List Nat := [16, 27, 32, 37, 42, 47, 52, 57, 62, 69, 74]
def Sc (R : List Nat) : Prop := OB R 1 3 ∧ CA R 2 200 ∧ IA R 3 4
def Sh (R : List Nat) (s n : Nat) : Prop := OB R s 5 ∧ NA R (s + 1) n ∧ ∀ r, r ∈ ntL → Nt R r
def Se (R : List Nat) : Prop := OB R 79 4 ∧ Br R 80 ∧ IA R 84 8
def BBr (R : List Nat) : Prop := OB R 0 6 ∧ Sc R ∧ Fl R 4 ∧ Fl R 10 ∧ Nt R 16 ∧ Br R 21 ∧ Sh R 25 8 ∧ Sh R 67 2 ∧ Se R ∧ IA R 85 6 ∧ IA R 86 6
def Md (R : List Nat) : Prop := OB R 100 7 ∧ IA R 101 200 ∧ IA R 103 4 ∧ IA R 108 32 ∧ IA R 109 8 ∧ IA R 114 32 ∧ IA R 116 8 ∧ IA R 120 21 ∧ IA R 121 21 ∧ IA R 122 168 ∧ IA R 124 42 ∧ IA R 126 12 ∧ IA R 128 8 ∧ IA R 129 8 ∧ IA R 131 21 ∧ IA R 132 9
theorem nt_lt {r : Nat} (h : r ∈ ntL) : r < 2 ^ 31 := by
  have : r ∈ ntL → r < 2 ^ 31 := by simp only [ntL, List.mem_cons, List.not_mem_nil, or_false]; omega
  exact this h
theorem nb0 : narrow .boolean (.int 0) = .int 0 := rfl
theorem nb1 : narrow .boolean (.int 1) = .int 1 := rfl
theorem nbz {v : Int32} (h : v = 0 ∨ v = 1) : narrow .boolean (.int v) = .int v := by rcases h with rfl | rfl <;> rfl
theorem fbz {v : Int32} (h : v = 0 ∨ v = 1) : fits .boolean (.int v) = true := by rcases h with rfl | rfl <;> rfl
theorem sw_out {x : Int32} (n : Nat) (hn : n < 2 ^ 31) (h : ∀ k : Nat, k ≤ n → ¬ x = nI k) : x.toInt < 0 ∨ (n : Int) < x.toInt := by
  by_cases h0 : x.toInt < 0
  · exact Or.inl h0
  · right
    have h1 : ¬ x < 0 := fun q => h0 (by rw [Int32.lt_iff_toInt_lt] at q; exact q)
    obtain ⟨j, hj, rfl⟩ := nI_of h1
    rw [nI_toInt hj]
    rcases Nat.lt_or_ge n j with q | q
    · exact_mod_cast q
    · exact absurd rfl (h j q)
section FR
variable {p : Program} {l : Launch} {e : Env} {Rm : Room} {s : State} {m : MethodId} {args : Array Value} {below : List Frame} {meth : Method} {c : Code} {nL : Nat} {D : va_G} {dA : Nat → ClassId} {ad : Nat → Nat} {R : List Nat} {A : Nat → Prop} {Q : State → Prop} {F : HF} {pc : Nat} {lv : List (Nat × Value)} {st : List Value} {cc : ByteArray}
theorem fg_X6_10 (X : Cx p s m args meth c cc nL RX6 D dA) (hk : OB R 0 6) (hdg : decode cc pc = .ok (.getfield 10, 3)) (kk : J p l e Rm s m args below meth c nL D dA ad R A Q F (pc + 3) lv (.ref (ad (1)) :: st)) : J p l e Rm s m args below meth c nL D dA ad R A Q F pc lv (.ref (ad 0) :: st) := r_getR (j := 0) (k := 0) X cl_X6 (by decide) rfl w_329 rfl rfl hk hdg kk
theorem fg_X6_19 (X : Cx p s m args meth c cc nL RX6 D dA) (hk : OB R 0 6) (hdg : decode cc pc = .ok (.getfield 19, 3)) (kk : J p l e Rm s m args below meth c nL D dA ad R A Q F (pc + 3) lv (.ref (ad (4)) :: st)) : J p l e Rm s m args below meth c nL D dA ad R A Q F pc lv (.ref (ad 0) :: st) := r_getR (j := 1) (k := 0) X cl_X6 (by decide) rfl w_330 rfl rfl hk hdg kk
theorem fg_X6_23 (X : Cx p s m args meth c cc nL RX6 D dA) (hk : OB R 0 6) (hdg : decode cc pc = .ok (.getfield 23, 3)) (kk : J p l e Rm s m args below meth c nL D dA ad R A Q F (pc + 3) lv (.ref (ad (10)) :: st)) : J p l e Rm s m args below meth c nL D dA ad R A Q F pc lv (.ref (ad 0) :: st) := r_getR (j := 2) (k := 0) X cl_X6 (by decide) rfl w_331 rfl rfl hk hdg kk
theorem fg_X6_31 (X : Cx p s m args meth c cc nL RX6 D dA) (hk : OB R 0 6) (hdg : decode cc pc = .ok (.getfield 31, 3)) (kk : J p l e Rm s m args below meth c nL D dA ad R A Q F (pc + 3) lv (.ref (ad (16)) :: st)) : J p l e Rm s m args below meth c nL D dA ad R A Q F pc lv (.ref (ad 0) :: st) := r_getR (j := 3) (k := 0) X cl_X6 (by decide) rfl w_332 rfl rfl hk hdg kk
theorem fg_X6_38 (X : Cx p s m args meth c cc nL RX6 D dA) (hk : OB R 0 6) (hdg : decode cc pc = .ok (.getfield 38, 3)) (kk : J p l e Rm s m args below meth c nL D dA ad R A Q F (pc + 3) lv (.ref (ad (21)) :: st)) : J p l e Rm s m args below meth c nL D dA ad R A Q F pc lv (.ref (ad 0) :: st) := r_getR (j := 4) (k := 0) X cl_X6 (by decide) rfl w_333 rfl rfl hk hdg kk
theorem fg_X6_47 (X : Cx p s m args meth c cc nL RX6 D dA) (hk : OB R 0 6) (hdg : decode cc pc = .ok (.getfield 47, 3)) (kk : J p l e Rm s m args below meth c nL D dA ad R A Q F (pc + 3) lv (.ref (ad (25)) :: st)) : J p l e Rm s m args below meth c nL D dA ad R A Q F pc lv (.ref (ad 0) :: st) := r_getR (j := 5) (k := 0) X cl_X6 (by decide) rfl w_334 rfl rfl hk hdg kk
theorem fg_X6_51 (X : Cx p s m args meth c cc nL RX6 D dA) (hk : OB R 0 6) (hdg : decode cc pc = .ok (.getfield 51, 3)) (kk : J p l e Rm s m args below meth c nL D dA ad R A Q F (pc + 3) lv (.ref (ad (67)) :: st)) : J p l e Rm s m args below meth c nL D dA ad R A Q F pc lv (.ref (ad 0) :: st) := r_getR (j := 6) (k := 0) X cl_X6 (by decide) rfl w_335 rfl rfl hk hdg kk
theorem fg_X6_57 (X : Cx p s m args meth c cc nL RX6 D dA) (hk : OB R 0 6) (hdg : decode cc pc = .ok (.getfield 57, 3)) (kk : J p l e Rm s m args below meth c nL D dA ad R A Q F (pc + 3) lv (.ref (ad (79)) :: st)) : J p l e Rm s m args below meth c nL D dA ad R A Q F pc lv (.ref (ad 0) :: st) := r_getR (j := 7) (k := 0) X cl_X6 (by decide) rfl w_336 rfl rfl hk hdg kk
theorem fg_X6_61 (X : Cx p s m args meth c cc nL RX6 D dA) (hk : OB R 0 6) (hdg : decode cc pc = .ok (.getfield 61, 3)) (kk : J p l e Rm s m args below meth c nL D dA ad R A Q F (pc + 3) lv (.ref (ad (85)) :: st)) : J p l e Rm s m args below meth c nL D dA ad R A Q F pc lv (.ref (ad 0) :: st) := r_getR (j := 8) (k := 0) X cl_X6 (by decide) rfl w_337 rfl rfl hk hdg kk
theorem fg_X6_65 (X : Cx p s m args meth c cc nL RX6 D dA) (hk : OB R 0 6) (hdg : decode cc pc = .ok (.getfield 65, 3)) (kk : J p l e Rm s m args below meth c nL D dA ad R A Q F (pc + 3) lv (.ref (ad (86)) :: st)) : J p l e Rm s m args below meth c nL D dA ad R A Q F pc lv (.ref (ad 0) :: st) := r_getR (j := 9) (k := 0) X cl_X6 (by decide) rfl w_338 rfl rfl hk hdg kk
theorem fg_X6_68 (X : Cx p s m args meth c cc nL RX6 D dA) (hk : OB R 0 6) (hdg : decode cc pc = .ok (.getfield 68, 3)) (kk : J p l e Rm s m args below meth c nL D dA ad R A Q F (pc + 3) lv (.int (F 0 10) :: st)) : J p l e Rm s m args below meth c nL D dA ad R A Q F pc lv (.ref (ad 0) :: st) := r_getI (j := 10) X cl_X6 (by decide) rfl w_339 rfl hk hdg kk
theorem fp_X6_68 (X : Cx p s m args meth c cc nL RX6 D dA) {v : Int32} (hk : OB R 0 6) (hdg : decode cc pc = .ok (.putfield 68, 3)) (kk : ∀ F1 : HF, F1 = hup F 0 10 v → J p l e Rm s m args below meth c nL D dA ad R A Q F1 (pc + 3) lv st) : J p l e Rm s m args below meth c nL D dA ad R A Q F pc lv (.int v :: .ref (ad 0) :: st) := r_putI (j := 10) X cl_X6 (by decide) rfl w_339 rfl rfl rfl rfl hk hdg kk
theorem fg_X0_9 (X : Cx p s m args meth c cc nL RX0 D dA) {k : Nat} (hk : OB R k 0) (hdg : decode cc pc = .ok (.getfield 9, 3)) (kk : J p l e Rm s m args below meth c nL D dA ad R A Q F (pc + 3) lv (.ref (ad (k + 1)) :: st)) : J p l e Rm s m args below meth c nL D dA ad R A Q F pc lv (.ref (ad k) :: st) := r_getR (j := 1) (k := k) X cl_X0 (by decide) rfl w_146 rfl rfl hk hdg kk
theorem fg_X0_15 (X : Cx p s m args meth c cc nL RX0 D dA) {k : Nat} (hk : OB R k 0) (hdg : decode cc pc = .ok (.getfield 15, 3)) (kk : J p l e Rm s m args below meth c nL D dA ad R A Q F (pc + 3) lv (.ref (ad (k + 2)) :: st)) : J p l e Rm s m args below meth c nL D dA ad R A Q F pc lv (.ref (ad k) :: st) := r_getR (j := 2) (k := k) X cl_X0 (by decide) rfl w_147 rfl rfl hk hdg kk
theorem fg_X0_18 (X : Cx p s m args meth c cc nL RX0 D dA) {k : Nat} (hk : OB R k 0) (hdg : decode cc pc = .ok (.getfield 18, 3)) (kk : J p l e Rm s m args below meth c nL D dA ad R A Q F (pc + 3) lv (.ref (ad (k + 3)) :: st)) : J p l e Rm s m args below meth c nL D dA ad R A Q F pc lv (.ref (ad k) :: st) := r_getR (j := 3) (k := k) X cl_X0 (by decide) rfl w_148 rfl rfl hk hdg kk
theorem fg_X0_21 (X : Cx p s m args meth c cc nL RX0 D dA) {k : Nat} (hk : OB R k 0) (hdg : decode cc pc = .ok (.getfield 21, 3)) (kk : J p l e Rm s m args below meth c nL D dA ad R A Q F (pc + 3) lv (.int (F k 4) :: st)) : J p l e Rm s m args below meth c nL D dA ad R A Q F pc lv (.ref (ad k) :: st) := r_getI (j := 4) X cl_X0 (by decide) rfl w_149 rfl hk hdg kk
theorem fp_X0_21 (X : Cx p s m args meth c cc nL RX0 D dA) {k : Nat} {v : Int32} (hk : OB R k 0) (hdg : decode cc pc = .ok (.putfield 21, 3)) (kk : ∀ F1 : HF, F1 = hup F k 4 v → J p l e Rm s m args below meth c nL D dA ad R A Q F1 (pc + 3) lv st) : J p l e Rm s m args below meth c nL D dA ad R A Q F pc lv (.int v :: .ref (ad k) :: st) := r_putI (j := 4) X cl_X0 (by decide) rfl w_149 rfl rfl rfl rfl hk hdg kk
theorem fg_X0_25 (X : Cx p s m args meth c cc nL RX0 D dA) {k : Nat} (hk : OB R k 0) (hdg : decode cc pc = .ok (.getfield 25, 3)) (kk : J p l e Rm s m args below meth c nL D dA ad R A Q F (pc + 3) lv (.ref (ad (4)) :: st)) : J p l e Rm s m args below meth c nL D dA ad R A Q F pc lv (.ref (ad k) :: st) := r_getR (j := 0) (k := k) X cl_X0 (by decide) rfl w_145 rfl rfl hk hdg kk
theorem fg_X1_9 (X : Cx p s m args meth c cc nL RX1 D dA) {k : Nat} (hk : OB R k 1) (hdg : decode cc pc = .ok (.getfield 9, 3)) (kk : J p l e Rm s m args below meth c nL D dA ad R A Q F (pc + 3) lv (.ref (ad (k + 1)) :: st)) : J p l e Rm s m args below meth c nL D dA ad R A Q F pc lv (.ref (ad k) :: st) := r_getR (j := 0) (k := k) X cl_X1 (by decide) rfl w_102 rfl rfl hk hdg kk
theorem fg_X1_15 (X : Cx p s m args meth c cc nL RX1 D dA) {k : Nat} (hk : OB R k 1) (hdg : decode cc pc = .ok (.getfield 15, 3)) (kk : J p l e Rm s m args below meth c nL D dA ad R A Q F (pc + 3) lv (.ref (ad (k + 2)) :: st)) : J p l e Rm s m args below meth c nL D dA ad R A Q F pc lv (.ref (ad k) :: st) := r_getR (j := 1) (k := k) X cl_X1 (by decide) rfl w_103 rfl rfl hk hdg kk
theorem fg_X1_18 (X : Cx p s m args meth c cc nL RX1 D dA) {k : Nat} (hk : OB R k 1) (hdg : decode cc pc = .ok (.getfield 18, 3)) (kk : J p l e Rm s m args below meth c nL D dA ad R A Q F (pc + 3) lv (.ref (ad (k + 3)) :: st)) : J p l e Rm s m args below meth c nL D dA ad R A Q F pc lv (.ref (ad k) :: st) := r_getR (j := 2) (k := k) X cl_X1 (by decide) rfl w_104 rfl rfl hk hdg kk
theorem fg_X1_21 (X : Cx p s m args meth c cc nL RX1 D dA) {k : Nat} (hk : OB R k 1) (hdg : decode cc pc = .ok (.getfield 21, 3)) (kk : J p l e Rm s m args below meth c nL D dA ad R A Q F (pc + 3) lv (.ref (ad (k + 4)) :: st)) : J p l e Rm s m args below meth c nL D dA ad R A Q F pc lv (.ref (ad k) :: st) := r_getR (j := 3) (k := k) X cl_X1 (by decide) rfl w_105 rfl rfl hk hdg kk
theorem fg_X1_24 (X : Cx p s m args meth c cc nL RX1 D dA) {k : Nat} (hk : OB R k 1) (hdg : decode cc pc = .ok (.getfield 24, 3)) (kk : J p l e Rm s m args below meth c nL D dA ad R A Q F (pc + 3) lv (.ref (ad (k + 5)) :: st)) : J p l e Rm s m args below meth c nL D dA ad R A Q F pc lv (.ref (ad k) :: st) := r_getR (j := 4) (k := k) X cl_X1 (by decide) rfl w_106 rfl rfl hk hdg kk
theorem fg_X1_30 (X : Cx p s m args meth c cc nL RX1 D dA) {k : Nat} (hk : OB R k 1) (hdg : decode cc pc = .ok (.getfield 30, 3)) (kk : J p l e Rm s m args below meth c nL D dA ad R A Q F (pc + 3) lv (.int (F k 5) :: st)) : J p l e Rm s m args below meth c nL D dA ad R A Q F pc lv (.ref (ad k) :: st) := r_getI (j := 5) X cl_X1 (by decide) rfl w_107 rfl hk hdg kk
theorem fp_X1_30 (X : Cx p s m args meth c cc nL RX1 D dA) {k : Nat} {v : Int32} (hk : OB R k 1) (hdg : decode cc pc = .ok (.putfield 30, 3)) (kk : ∀ F1 : HF, F1 = hup F k 5 v → J p l e Rm s m args below meth c nL D dA ad R A Q F1 (pc + 3) lv st) : J p l e Rm s m args below meth c nL D dA ad R A Q F pc lv (.int v :: .ref (ad k) :: st) := r_putI (j := 5) X cl_X1 (by decide) rfl w_107 rfl rfl rfl rfl hk hdg kk
theorem fg_X1_34 (X : Cx p s m args meth c cc nL RX1 D dA) {k : Nat} (hk : OB R k 1) (hdg : decode cc pc = .ok (.getfield 34, 3)) (kk : J p l e Rm s m args below meth c nL D dA ad R A Q F (pc + 3) lv (.int (F k 6) :: st)) : J p l e Rm s m args below meth c nL D dA ad R A Q F pc lv (.ref (ad k) :: st) := r_getI (j := 6) X cl_X1 (by decide) rfl w_108 rfl hk hdg kk
theorem fp_X1_34 (X : Cx p s m args meth c cc nL RX1 D dA) {k : Nat} {v : Int32} (hk : OB R k 1) (hdg : decode cc pc = .ok (.putfield 34, 3)) (kk : ∀ F1 : HF, F1 = hup F k 6 v → J p l e Rm s m args below meth c nL D dA ad R A Q F1 (pc + 3) lv st) : J p l e Rm s m args below meth c nL D dA ad R A Q F pc lv (.int v :: .ref (ad k) :: st) := r_putI (j := 6) X cl_X1 (by decide) rfl w_108 rfl rfl rfl rfl hk hdg kk
theorem fg_X1_37 (X : Cx p s m args meth c cc nL RX1 D dA) {k : Nat} (hk : OB R k 1) (hdg : decode cc pc = .ok (.getfield 37, 3)) (kk : J p l e Rm s m args below meth c nL D dA ad R A Q F (pc + 3) lv (.int (F k 7) :: st)) : J p l e Rm s m args below meth c nL D dA ad R A Q F pc lv (.ref (ad k) :: st) := r_getI (j := 7) X cl_X1 (by decide) rfl w_109 rfl hk hdg kk
theorem fp_X1_37 (X : Cx p s m args meth c cc nL RX1 D dA) {k : Nat} {v : Int32} (hk : OB R k 1) (hdg : decode cc pc = .ok (.putfield 37, 3)) (kk : ∀ F1 : HF, F1 = hup F k 7 v → J p l e Rm s m args below meth c nL D dA ad R A Q F1 (pc + 3) lv st) : J p l e Rm s m args below meth c nL D dA ad R A Q F pc lv (.int v :: .ref (ad k) :: st) := r_putI (j := 7) X cl_X1 (by decide) rfl w_109 rfl rfl rfl rfl hk hdg kk
theorem fg_X1_40 (X : Cx p s m args meth c cc nL RX1 D dA) {k : Nat} (hk : OB R k 1) (hdg : decode cc pc = .ok (.getfield 40, 3)) (kk : J p l e Rm s m args below meth c nL D dA ad R A Q F (pc + 3) lv (.int (F k 8) :: st)) : J p l e Rm s m args below meth c nL D dA ad R A Q F pc lv (.ref (ad k) :: st) := r_getI (j := 8) X cl_X1 (by decide) rfl w_110 rfl hk hdg kk
theorem fp_X1_40 (X : Cx p s m args meth c cc nL RX1 D dA) {k : Nat} {v : Int32} (hk : OB R k 1) (hdg : decode cc pc = .ok (.putfield 40, 3)) (kk : ∀ F1 : HF, F1 = hup F k 8 v → J p l e Rm s m args below meth c nL D dA ad R A Q F1 (pc + 3) lv st) : J p l e Rm s m args below meth c nL D dA ad R A Q F pc lv (.int v :: .ref (ad k) :: st) := r_putI (j := 8) X cl_X1 (by decide) rfl w_110 rfl rfl rfl rfl hk hdg kk
theorem fg_X1_43 (X : Cx p s m args meth c cc nL RX1 D dA) {k : Nat} (hk : OB R k 1) (hdg : decode cc pc = .ok (.getfield 43, 3)) (kk : J p l e Rm s m args below meth c nL D dA ad R A Q F (pc + 3) lv (.int (F k 9) :: st)) : J p l e Rm s m args below meth c nL D dA ad R A Q F pc lv (.ref (ad k) :: st) := r_getI (j := 9) X cl_X1 (by decide) rfl w_111 rfl hk hdg kk
theorem fp_X1_43 (X : Cx p s m args meth c cc nL RX1 D dA) {k : Nat} {v : Int32} (hk : OB R k 1) (hdg : decode cc pc = .ok (.putfield 43, 3)) (kk : ∀ F1 : HF, F1 = hup F k 9 v → J p l e Rm s m args below meth c nL D dA ad R A Q F1 (pc + 3) lv st) : J p l e Rm s m args below meth c nL D dA ad R A Q F pc lv (.int v :: .ref (ad k) :: st) := r_putI (j := 9) X cl_X1 (by decide) rfl w_111 rfl rfl rfl rfl hk hdg kk
theorem fg_X2_9 (X : Cx p s m args meth c cc nL RX2 D dA) {k : Nat} (hk : OB R k 2) (hdg : decode cc pc = .ok (.getfield 9, 3)) (kk : J p l e Rm s m args below meth c nL D dA ad R A Q F (pc + 3) lv (.int (F k 2) :: st)) : J p l e Rm s m args below meth c nL D dA ad R A Q F pc lv (.ref (ad k) :: st) := r_getI (j := 2) X cl_X2 (by decide) rfl w_163 rfl hk hdg kk
theorem fp_X2_9 (X : Cx p s m args meth c cc nL RX2 D dA) {k : Nat} {v : Int32} (hk : OB R k 2) (hdg : decode cc pc = .ok (.putfield 9, 3)) (kk : ∀ F1 : HF, F1 = hup F k 2 v → J p l e Rm s m args below meth c nL D dA ad R A Q F1 (pc + 3) lv st) : J p l e Rm s m args below meth c nL D dA ad R A Q F pc lv (.int v :: .ref (ad k) :: st) := r_putI (j := 2) X cl_X2 (by decide) rfl w_163 rfl rfl rfl rfl hk hdg kk
theorem fg_X2_15 (X : Cx p s m args meth c cc nL RX2 D dA) {k : Nat} (hk : OB R k 2) (hdg : decode cc pc = .ok (.getfield 15, 3)) (kk : J p l e Rm s m args below meth c nL D dA ad R A Q F (pc + 3) lv (.int (F k 3) :: st)) : J p l e Rm s m args below meth c nL D dA ad R A Q F pc lv (.ref (ad k) :: st) := r_getI (j := 3) X cl_X2 (by decide) rfl w_164 rfl hk hdg kk
theorem fp_X2_15 (X : Cx p s m args meth c cc nL RX2 D dA) {k : Nat} {v : Int32} (hk : OB R k 2) (hdg : decode cc pc = .ok (.putfield 15, 3)) (kk : ∀ F1 : HF, F1 = hup F k 3 v → J p l e Rm s m args below meth c nL D dA ad R A Q F1 (pc + 3) lv st) : J p l e Rm s m args below meth c nL D dA ad R A Q F pc lv (.int v :: .ref (ad k) :: st) := r_putI (j := 3) X cl_X2 (by decide) rfl w_164 rfl rfl rfl rfl hk hdg kk
theorem fg_X2_18 (X : Cx p s m args meth c cc nL RX2 D dA) {k : Nat} (hk : OB R k 2) (hdg : decode cc pc = .ok (.getfield 18, 3)) (kk : J p l e Rm s m args below meth c nL D dA ad R A Q F (pc + 3) lv (.int (F k 4) :: st)) : J p l e Rm s m args below meth c nL D dA ad R A Q F pc lv (.ref (ad k) :: st) := r_getI (j := 4) X cl_X2 (by decide) rfl w_165 rfl hk hdg kk
theorem fp_X2_18 (X : Cx p s m args meth c cc nL RX2 D dA) {k : Nat} {v : Int32} (hk : OB R k 2) (hdg : decode cc pc = .ok (.putfield 18, 3)) (kk : ∀ F1 : HF, F1 = hup F k 4 v → J p l e Rm s m args below meth c nL D dA ad R A Q F1 (pc + 3) lv st) : J p l e Rm s m args below meth c nL D dA ad R A Q F pc lv (.int v :: .ref (ad k) :: st) := r_putI (j := 4) X cl_X2 (by decide) rfl w_165 rfl rfl rfl rfl hk hdg kk
theorem fg_X2_21 (X : Cx p s m args meth c cc nL RX2 D dA) {k : Nat} (hk : OB R k 2) (hdg : decode cc pc = .ok (.getfield 21, 3)) (kk : J p l e Rm s m args below meth c nL D dA ad R A Q F (pc + 3) lv (.int (F k 5) :: st)) : J p l e Rm s m args below meth c nL D dA ad R A Q F pc lv (.ref (ad k) :: st) := r_getI (j := 5) X cl_X2 (by decide) rfl w_166 rfl hk hdg kk
theorem fp_X2_21 (X : Cx p s m args meth c cc nL RX2 D dA) {k : Nat} {v : Int32} (hz : v = 0 ∨ v = 1) (hk : OB R k 2) (hdg : decode cc pc = .ok (.putfield 21, 3)) (kk : ∀ F1 : HF, F1 = hup F k 5 v → J p l e Rm s m args below meth c nL D dA ad R A Q F1 (pc + 3) lv st) : J p l e Rm s m args below meth c nL D dA ad R A Q F pc lv (.int v :: .ref (ad k) :: st) := r_putI (j := 5) X cl_X2 (by decide) rfl w_166 rfl rfl (nbz hz) (fbz hz) hk hdg kk
theorem fg_X2_25 (X : Cx p s m args meth c cc nL RX2 D dA) {k : Nat} (hk : OB R k 2) (hdg : decode cc pc = .ok (.getfield 25, 3)) (kk : J p l e Rm s m args below meth c nL D dA ad R A Q F (pc + 3) lv (.ref (ad (4)) :: st)) : J p l e Rm s m args below meth c nL D dA ad R A Q F pc lv (.ref (ad k) :: st) := r_getR (j := 0) (k := k) X cl_X2 (by decide) rfl w_161 rfl rfl hk hdg kk
theorem fg_X2_34 (X : Cx p s m args meth c cc nL RX2 D dA) {k : Nat} (hk : OB R k 2) (hdg : decode cc pc = .ok (.getfield 34, 3)) (kk : J p l e Rm s m args below meth c nL D dA ad R A Q F (pc + 3) lv (.ref (ad (k + 1)) :: st)) : J p l e Rm s m args below meth c nL D dA ad R A Q F pc lv (.ref (ad k) :: st) := r_getR (j := 1) (k := k) X cl_X2 (by decide) rfl w_162 rfl rfl hk hdg kk
theorem fg_X3_9 (X : Cx p s m args meth c cc nL RX3 D dA) (hk : OB R 1 3) (hdg : decode cc pc = .ok (.getfield 9, 3)) (kk : J p l e Rm s m args below meth c nL D dA ad R A Q F (pc + 3) lv (.ref (ad (2)) :: st)) : J p l e Rm s m args below meth c nL D dA ad R A Q F pc lv (.ref (ad 1) :: st) := r_getR (j := 0) (k := 1) X cl_X3 (by decide) rfl w_80 rfl rfl hk hdg kk
theorem fg_X3_15 (X : Cx p s m args meth c cc nL RX3 D dA) (hk : OB R 1 3) (hdg : decode cc pc = .ok (.getfield 15, 3)) (kk : J p l e Rm s m args below meth c nL D dA ad R A Q F (pc + 3) lv (.ref (ad (3)) :: st)) : J p l e Rm s m args below meth c nL D dA ad R A Q F pc lv (.ref (ad 1) :: st) := r_getR (j := 1) (k := 1) X cl_X3 (by decide) rfl w_81 rfl rfl hk hdg kk
theorem fg_X3_19 (X : Cx p s m args meth c cc nL RX3 D dA) (hk : OB R 1 3) (hdg : decode cc pc = .ok (.getfield 19, 3)) (kk : J p l e Rm s m args below meth c nL D dA ad R A Q F (pc + 3) lv (.int (F 1 2) :: st)) : J p l e Rm s m args below meth c nL D dA ad R A Q F pc lv (.ref (ad 1) :: st) := r_getI (j := 2) X cl_X3 (by decide) rfl w_82 rfl hk hdg kk
theorem fp_X3_19 (X : Cx p s m args meth c cc nL RX3 D dA) {v : Int32} (hk : OB R 1 3) (hdg : decode cc pc = .ok (.putfield 19, 3)) (kk : ∀ F1 : HF, F1 = hup F 1 2 v → J p l e Rm s m args below meth c nL D dA ad R A Q F1 (pc + 3) lv st) : J p l e Rm s m args below meth c nL D dA ad R A Q F pc lv (.int v :: .ref (ad 1) :: st) := r_putI (j := 2) X cl_X3 (by decide) rfl w_82 rfl rfl rfl rfl hk hdg kk
theorem fg_X4_9 (X : Cx p s m args meth c cc nL RX4 D dA) (hk : OB R 79 4) (hdg : decode cc pc = .ok (.getfield 9, 3)) (kk : J p l e Rm s m args below meth c nL D dA ad R A Q F (pc + 3) lv (.ref (ad (84)) :: st)) : J p l e Rm s m args below meth c nL D dA ad R A Q F pc lv (.ref (ad 79) :: st) := r_getR (j := 2) (k := 79) X cl_X4 (by decide) rfl w_211 rfl rfl hk hdg kk
theorem fg_X4_15 (X : Cx p s m args meth c cc nL RX4 D dA) (hk : OB R 79 4) (hdg : decode cc pc = .ok (.getfield 15, 3)) (kk : J p l e Rm s m args below meth c nL D dA ad R A Q F (pc + 3) lv (.int (F 79 3) :: st)) : J p l e Rm s m args below meth c nL D dA ad R A Q F pc lv (.ref (ad 79) :: st) := r_getI (j := 3) X cl_X4 (by decide) rfl w_212 rfl hk hdg kk
theorem fp_X4_15 (X : Cx p s m args meth c cc nL RX4 D dA) {v : Int32} (hk : OB R 79 4) (hdg : decode cc pc = .ok (.putfield 15, 3)) (kk : ∀ F1 : HF, F1 = hup F 79 3 v → J p l e Rm s m args below meth c nL D dA ad R A Q F1 (pc + 3) lv st) : J p l e Rm s m args below meth c nL D dA ad R A Q F pc lv (.int v :: .ref (ad 79) :: st) := r_putI (j := 3) X cl_X4 (by decide) rfl w_212 rfl rfl rfl rfl hk hdg kk
theorem fg_X4_19 (X : Cx p s m args meth c cc nL RX4 D dA) (hk : OB R 79 4) (hdg : decode cc pc = .ok (.getfield 19, 3)) (kk : J p l e Rm s m args below meth c nL D dA ad R A Q F (pc + 3) lv (.int (F 79 4) :: st)) : J p l e Rm s m args below meth c nL D dA ad R A Q F pc lv (.ref (ad 79) :: st) := r_getI (j := 4) X cl_X4 (by decide) rfl w_213 rfl hk hdg kk
theorem fp_X4_19 (X : Cx p s m args meth c cc nL RX4 D dA) {v : Int32} (hk : OB R 79 4) (hdg : decode cc pc = .ok (.putfield 19, 3)) (kk : ∀ F1 : HF, F1 = hup F 79 4 v → J p l e Rm s m args below meth c nL D dA ad R A Q F1 (pc + 3) lv st) : J p l e Rm s m args below meth c nL D dA ad R A Q F pc lv (.int v :: .ref (ad 79) :: st) := r_putI (j := 4) X cl_X4 (by decide) rfl w_213 rfl rfl rfl rfl hk hdg kk
theorem fg_X4_22 (X : Cx p s m args meth c cc nL RX4 D dA) (hk : OB R 79 4) (hdg : decode cc pc = .ok (.getfield 22, 3)) (kk : J p l e Rm s m args below meth c nL D dA ad R A Q F (pc + 3) lv (.ref (ad (4)) :: st)) : J p l e Rm s m args below meth c nL D dA ad R A Q F pc lv (.ref (ad 79) :: st) := r_getR (j := 0) (k := 79) X cl_X4 (by decide) rfl w_209 rfl rfl hk hdg kk
theorem fg_X4_31 (X : Cx p s m args meth c cc nL RX4 D dA) (hk : OB R 79 4) (hdg : decode cc pc = .ok (.getfield 31, 3)) (kk : J p l e Rm s m args below meth c nL D dA ad R A Q F (pc + 3) lv (.ref (ad (80)) :: st)) : J p l e Rm s m args below meth c nL D dA ad R A Q F pc lv (.ref (ad 79) :: st) := r_getR (j := 1) (k := 79) X cl_X4 (by decide) rfl w_210 rfl rfl hk hdg kk
theorem fg_X5_7 (X : Cx p s m args meth c cc nL RX5 D dA) {k : Nat} (hk : OB R k 5) (hdg : decode cc pc = .ok (.getfield 7, 3)) (kk : J p l e Rm s m args below meth c nL D dA ad R A Q F (pc + 3) lv (.int (F k 1) :: st)) : J p l e Rm s m args below meth c nL D dA ad R A Q F pc lv (.ref (ad k) :: st) := r_getI (j := 1) X cl_X5 (by decide) rfl w_195 rfl hk hdg kk
theorem fp_X5_7 (X : Cx p s m args meth c cc nL RX5 D dA) {k : Nat} {v : Int32} (hk : OB R k 5) (hdg : decode cc pc = .ok (.putfield 7, 3)) (kk : ∀ F1 : HF, F1 = hup F k 1 v → J p l e Rm s m args below meth c nL D dA ad R A Q F1 (pc + 3) lv st) : J p l e Rm s m args below meth c nL D dA ad R A Q F pc lv (.int v :: .ref (ad k) :: st) := r_putI (j := 1) X cl_X5 (by decide) rfl w_195 rfl rfl rfl rfl hk hdg kk
theorem fg_X5_21 (X : Cx p s m args meth c cc nL RX5 D dA) {k : Nat} (hk : OB R k 5) (hdg : decode cc pc = .ok (.getfield 21, 3)) (kk : J p l e Rm s m args below meth c nL D dA ad R A Q F (pc + 3) lv (.ref (ad (k + 1)) :: st)) : J p l e Rm s m args below meth c nL D dA ad R A Q F pc lv (.ref (ad k) :: st) := r_getR (j := 0) (k := k) X cl_X5 (by decide) rfl w_194 rfl rfl hk hdg kk
theorem fg_X7_7 (X : Cx p s m args meth c cc nL RX7 D dA) (hk : OB R 100 7) (hdg : decode cc pc = .ok (.getfield 7, 3)) (kk : J p l e Rm s m args below meth c nL D dA ad R A Q F (pc + 3) lv (.ref (ad (101)) :: st)) : J p l e Rm s m args below meth c nL D dA ad R A Q F pc lv (.ref (ad 100) :: st) := r_getR (j := 1) (k := 100) X cl_X7 (by decide) rfl w_815 rfl rfl hk hdg kk
theorem fg_X7_13 (X : Cx p s m args meth c cc nL RX7 D dA) (hk : OB R 100 7) (hdg : decode cc pc = .ok (.getfield 13, 3)) (kk : J p l e Rm s m args below meth c nL D dA ad R A Q F (pc + 3) lv (.ref (ad (103)) :: st)) : J p l e Rm s m args below meth c nL D dA ad R A Q F pc lv (.ref (ad 100) :: st) := r_getR (j := 3) (k := 100) X cl_X7 (by decide) rfl w_817 rfl rfl hk hdg kk
theorem fg_X7_16 (X : Cx p s m args meth c cc nL RX7 D dA) (hk : OB R 100 7) (hdg : decode cc pc = .ok (.getfield 16, 3)) (kk : J p l e Rm s m args below meth c nL D dA ad R A Q F (pc + 3) lv (.ref (ad (108)) :: st)) : J p l e Rm s m args below meth c nL D dA ad R A Q F pc lv (.ref (ad 100) :: st) := r_getR (j := 8) (k := 100) X cl_X7 (by decide) rfl w_822 rfl rfl hk hdg kk
theorem fg_X7_19 (X : Cx p s m args meth c cc nL RX7 D dA) (hk : OB R 100 7) (hdg : decode cc pc = .ok (.getfield 19, 3)) (kk : J p l e Rm s m args below meth c nL D dA ad R A Q F (pc + 3) lv (.ref (ad (109)) :: st)) : J p l e Rm s m args below meth c nL D dA ad R A Q F pc lv (.ref (ad 100) :: st) := r_getR (j := 9) (k := 100) X cl_X7 (by decide) rfl w_823 rfl rfl hk hdg kk
theorem fg_X7_22 (X : Cx p s m args meth c cc nL RX7 D dA) (hk : OB R 100 7) (hdg : decode cc pc = .ok (.getfield 22, 3)) (kk : J p l e Rm s m args below meth c nL D dA ad R A Q F (pc + 3) lv (.int (F 100 13) :: st)) : J p l e Rm s m args below meth c nL D dA ad R A Q F pc lv (.ref (ad 100) :: st) := r_getI (j := 13) X cl_X7 (by decide) rfl w_827 rfl hk hdg kk
theorem fp_X7_22 (X : Cx p s m args meth c cc nL RX7 D dA) {v : Int32} (hk : OB R 100 7) (hdg : decode cc pc = .ok (.putfield 22, 3)) (kk : ∀ F1 : HF, F1 = hup F 100 13 v → J p l e Rm s m args below meth c nL D dA ad R A Q F1 (pc + 3) lv st) : J p l e Rm s m args below meth c nL D dA ad R A Q F pc lv (.int v :: .ref (ad 100) :: st) := r_putI (j := 13) X cl_X7 (by decide) rfl w_827 rfl rfl rfl rfl hk hdg kk
theorem fg_X7_26 (X : Cx p s m args meth c cc nL RX7 D dA) (hk : OB R 100 7) (hdg : decode cc pc = .ok (.getfield 26, 3)) (kk : J p l e Rm s m args below meth c nL D dA ad R A Q F (pc + 3) lv (.ref (ad (114)) :: st)) : J p l e Rm s m args below meth c nL D dA ad R A Q F pc lv (.ref (ad 100) :: st) := r_getR (j := 14) (k := 100) X cl_X7 (by decide) rfl w_828 rfl rfl hk hdg kk
theorem fg_X7_29 (X : Cx p s m args meth c cc nL RX7 D dA) (hk : OB R 100 7) (hdg : decode cc pc = .ok (.getfield 29, 3)) (kk : J p l e Rm s m args below meth c nL D dA ad R A Q F (pc + 3) lv (.int (F 100 15) :: st)) : J p l e Rm s m args below meth c nL D dA ad R A Q F pc lv (.ref (ad 100) :: st) := r_getI (j := 15) X cl_X7 (by decide) rfl w_829 rfl hk hdg kk
theorem fp_X7_29 (X : Cx p s m args meth c cc nL RX7 D dA) {v : Int32} (hk : OB R 100 7) (hdg : decode cc pc = .ok (.putfield 29, 3)) (kk : ∀ F1 : HF, F1 = hup F 100 15 v → J p l e Rm s m args below meth c nL D dA ad R A Q F1 (pc + 3) lv st) : J p l e Rm s m args below meth c nL D dA ad R A Q F pc lv (.int v :: .ref (ad 100) :: st) := r_putI (j := 15) X cl_X7 (by decide) rfl w_829 rfl rfl rfl rfl hk hdg kk
theorem fg_X7_32 (X : Cx p s m args meth c cc nL RX7 D dA) (hk : OB R 100 7) (hdg : decode cc pc = .ok (.getfield 32, 3)) (kk : J p l e Rm s m args below meth c nL D dA ad R A Q F (pc + 3) lv (.ref (ad (116)) :: st)) : J p l e Rm s m args below meth c nL D dA ad R A Q F pc lv (.ref (ad 100) :: st) := r_getR (j := 16) (k := 100) X cl_X7 (by decide) rfl w_830 rfl rfl hk hdg kk
theorem fg_X7_35 (X : Cx p s m args meth c cc nL RX7 D dA) (hk : OB R 100 7) (hdg : decode cc pc = .ok (.getfield 35, 3)) (kk : J p l e Rm s m args below meth c nL D dA ad R A Q F (pc + 3) lv (.int (F 100 17) :: st)) : J p l e Rm s m args below meth c nL D dA ad R A Q F pc lv (.ref (ad 100) :: st) := r_getI (j := 17) X cl_X7 (by decide) rfl w_831 rfl hk hdg kk
theorem fp_X7_35 (X : Cx p s m args meth c cc nL RX7 D dA) {v : Int32} (hk : OB R 100 7) (hdg : decode cc pc = .ok (.putfield 35, 3)) (kk : ∀ F1 : HF, F1 = hup F 100 17 v → J p l e Rm s m args below meth c nL D dA ad R A Q F1 (pc + 3) lv st) : J p l e Rm s m args below meth c nL D dA ad R A Q F pc lv (.int v :: .ref (ad 100) :: st) := r_putI (j := 17) X cl_X7 (by decide) rfl w_831 rfl rfl rfl rfl hk hdg kk
theorem fg_X7_38 (X : Cx p s m args meth c cc nL RX7 D dA) (hk : OB R 100 7) (hdg : decode cc pc = .ok (.getfield 38, 3)) (kk : J p l e Rm s m args below meth c nL D dA ad R A Q F (pc + 3) lv (.int (F 100 18) :: st)) : J p l e Rm s m args below meth c nL D dA ad R A Q F pc lv (.ref (ad 100) :: st) := r_getI (j := 18) X cl_X7 (by decide) rfl w_832 rfl hk hdg kk
theorem fp_X7_38 (X : Cx p s m args meth c cc nL RX7 D dA) {v : Int32} (hk : OB R 100 7) (hdg : decode cc pc = .ok (.putfield 38, 3)) (kk : ∀ F1 : HF, F1 = hup F 100 18 v → J p l e Rm s m args below meth c nL D dA ad R A Q F1 (pc + 3) lv st) : J p l e Rm s m args below meth c nL D dA ad R A Q F pc lv (.int v :: .ref (ad 100) :: st) := r_putI (j := 18) X cl_X7 (by decide) rfl w_832 rfl rfl rfl rfl hk hdg kk
theorem fg_X7_41 (X : Cx p s m args meth c cc nL RX7 D dA) (hk : OB R 100 7) (hdg : decode cc pc = .ok (.getfield 41, 3)) (kk : J p l e Rm s m args below meth c nL D dA ad R A Q F (pc + 3) lv (.int (F 100 19) :: st)) : J p l e Rm s m args below meth c nL D dA ad R A Q F pc lv (.ref (ad 100) :: st) := r_getI (j := 19) X cl_X7 (by decide) rfl w_833 rfl hk hdg kk
theorem fp_X7_41 (X : Cx p s m args meth c cc nL RX7 D dA) {v : Int32} (hk : OB R 100 7) (hdg : decode cc pc = .ok (.putfield 41, 3)) (kk : ∀ F1 : HF, F1 = hup F 100 19 v → J p l e Rm s m args below meth c nL D dA ad R A Q F1 (pc + 3) lv st) : J p l e Rm s m args below meth c nL D dA ad R A Q F pc lv (.int v :: .ref (ad 100) :: st) := r_putI (j := 19) X cl_X7 (by decide) rfl w_833 rfl rfl rfl rfl hk hdg kk
theorem fg_X7_44 (X : Cx p s m args meth c cc nL RX7 D dA) (hk : OB R 100 7) (hdg : decode cc pc = .ok (.getfield 44, 3)) (kk : J p l e Rm s m args below meth c nL D dA ad R A Q F (pc + 3) lv (.ref (ad (120)) :: st)) : J p l e Rm s m args below meth c nL D dA ad R A Q F pc lv (.ref (ad 100) :: st) := r_getR (j := 20) (k := 100) X cl_X7 (by decide) rfl w_834 rfl rfl hk hdg kk
theorem fg_X7_47 (X : Cx p s m args meth c cc nL RX7 D dA) (hk : OB R 100 7) (hdg : decode cc pc = .ok (.getfield 47, 3)) (kk : J p l e Rm s m args below meth c nL D dA ad R A Q F (pc + 3) lv (.ref (ad (121)) :: st)) : J p l e Rm s m args below meth c nL D dA ad R A Q F pc lv (.ref (ad 100) :: st) := r_getR (j := 21) (k := 100) X cl_X7 (by decide) rfl w_835 rfl rfl hk hdg kk
theorem fg_X7_50 (X : Cx p s m args meth c cc nL RX7 D dA) (hk : OB R 100 7) (hdg : decode cc pc = .ok (.getfield 50, 3)) (kk : J p l e Rm s m args below meth c nL D dA ad R A Q F (pc + 3) lv (.ref (ad (122)) :: st)) : J p l e Rm s m args below meth c nL D dA ad R A Q F pc lv (.ref (ad 100) :: st) := r_getR (j := 22) (k := 100) X cl_X7 (by decide) rfl w_836 rfl rfl hk hdg kk
theorem fg_X7_53 (X : Cx p s m args meth c cc nL RX7 D dA) (hk : OB R 100 7) (hdg : decode cc pc = .ok (.getfield 53, 3)) (kk : J p l e Rm s m args below meth c nL D dA ad R A Q F (pc + 3) lv (.ref (ad (124)) :: st)) : J p l e Rm s m args below meth c nL D dA ad R A Q F pc lv (.ref (ad 100) :: st) := r_getR (j := 24) (k := 100) X cl_X7 (by decide) rfl w_838 rfl rfl hk hdg kk
theorem fg_X7_56 (X : Cx p s m args meth c cc nL RX7 D dA) (hk : OB R 100 7) (hdg : decode cc pc = .ok (.getfield 56, 3)) (kk : J p l e Rm s m args below meth c nL D dA ad R A Q F (pc + 3) lv (.ref (ad (126)) :: st)) : J p l e Rm s m args below meth c nL D dA ad R A Q F pc lv (.ref (ad 100) :: st) := r_getR (j := 26) (k := 100) X cl_X7 (by decide) rfl w_840 rfl rfl hk hdg kk
theorem fg_X7_59 (X : Cx p s m args meth c cc nL RX7 D dA) (hk : OB R 100 7) (hdg : decode cc pc = .ok (.getfield 59, 3)) (kk : J p l e Rm s m args below meth c nL D dA ad R A Q F (pc + 3) lv (.ref (ad (128)) :: st)) : J p l e Rm s m args below meth c nL D dA ad R A Q F pc lv (.ref (ad 100) :: st) := r_getR (j := 28) (k := 100) X cl_X7 (by decide) rfl w_842 rfl rfl hk hdg kk
theorem fg_X7_62 (X : Cx p s m args meth c cc nL RX7 D dA) (hk : OB R 100 7) (hdg : decode cc pc = .ok (.getfield 62, 3)) (kk : J p l e Rm s m args below meth c nL D dA ad R A Q F (pc + 3) lv (.ref (ad (129)) :: st)) : J p l e Rm s m args below meth c nL D dA ad R A Q F pc lv (.ref (ad 100) :: st) := r_getR (j := 29) (k := 100) X cl_X7 (by decide) rfl w_843 rfl rfl hk hdg kk
theorem fg_X7_65 (X : Cx p s m args meth c cc nL RX7 D dA) (hk : OB R 100 7) (hdg : decode cc pc = .ok (.getfield 65, 3)) (kk : J p l e Rm s m args below meth c nL D dA ad R A Q F (pc + 3) lv (.ref (ad (131)) :: st)) : J p l e Rm s m args below meth c nL D dA ad R A Q F pc lv (.ref (ad 100) :: st) := r_getR (j := 31) (k := 100) X cl_X7 (by decide) rfl w_845 rfl rfl hk hdg kk
theorem fg_X7_68 (X : Cx p s m args meth c cc nL RX7 D dA) (hk : OB R 100 7) (hdg : decode cc pc = .ok (.getfield 68, 3)) (kk : J p l e Rm s m args below meth c nL D dA ad R A Q F (pc + 3) lv (.ref (ad (132)) :: st)) : J p l e Rm s m args below meth c nL D dA ad R A Q F pc lv (.ref (ad 100) :: st) := r_getR (j := 32) (k := 100) X cl_X7 (by decide) rfl w_846 rfl rfl hk hdg kk
theorem fg_X7_78 (X : Cx p s m args meth c cc nL RX7 D dA) (hk : OB R 100 7) (hdg : decode cc pc = .ok (.getfield 78, 3)) (kk : J p l e Rm s m args below meth c nL D dA ad R A Q F (pc + 3) lv (.int (F 100 23) :: st)) : J p l e Rm s m args below meth c nL D dA ad R A Q F pc lv (.ref (ad 100) :: st) := r_getI (j := 23) X cl_X7 (by decide) rfl w_837 rfl hk hdg kk
theorem fp_X7_78 (X : Cx p s m args meth c cc nL RX7 D dA) {v : Int32} (hk : OB R 100 7) (hdg : decode cc pc = .ok (.putfield 78, 3)) (kk : ∀ F1 : HF, F1 = hup F 100 23 v → J p l e Rm s m args below meth c nL D dA ad R A Q F1 (pc + 3) lv st) : J p l e Rm s m args below meth c nL D dA ad R A Q F pc lv (.int v :: .ref (ad 100) :: st) := r_putI (j := 23) X cl_X7 (by decide) rfl w_837 rfl rfl rfl rfl hk hdg kk
theorem fg_X7_81 (X : Cx p s m args meth c cc nL RX7 D dA) (hk : OB R 100 7) (hdg : decode cc pc = .ok (.getfield 81, 3)) (kk : J p l e Rm s m args below meth c nL D dA ad R A Q F (pc + 3) lv (.int (F 100 25) :: st)) : J p l e Rm s m args below meth c nL D dA ad R A Q F pc lv (.ref (ad 100) :: st) := r_getI (j := 25) X cl_X7 (by decide) rfl w_839 rfl hk hdg kk
theorem fp_X7_81 (X : Cx p s m args meth c cc nL RX7 D dA) {v : Int32} (hk : OB R 100 7) (hdg : decode cc pc = .ok (.putfield 81, 3)) (kk : ∀ F1 : HF, F1 = hup F 100 25 v → J p l e Rm s m args below meth c nL D dA ad R A Q F1 (pc + 3) lv st) : J p l e Rm s m args below meth c nL D dA ad R A Q F pc lv (.int v :: .ref (ad 100) :: st) := r_putI (j := 25) X cl_X7 (by decide) rfl w_839 rfl rfl rfl rfl hk hdg kk
theorem fg_X7_84 (X : Cx p s m args meth c cc nL RX7 D dA) (hk : OB R 100 7) (hdg : decode cc pc = .ok (.getfield 84, 3)) (kk : J p l e Rm s m args below meth c nL D dA ad R A Q F (pc + 3) lv (.int (F 100 27) :: st)) : J p l e Rm s m args below meth c nL D dA ad R A Q F pc lv (.ref (ad 100) :: st) := r_getI (j := 27) X cl_X7 (by decide) rfl w_841 rfl hk hdg kk
theorem fp_X7_84 (X : Cx p s m args meth c cc nL RX7 D dA) {v : Int32} (hk : OB R 100 7) (hdg : decode cc pc = .ok (.putfield 84, 3)) (kk : ∀ F1 : HF, F1 = hup F 100 27 v → J p l e Rm s m args below meth c nL D dA ad R A Q F1 (pc + 3) lv st) : J p l e Rm s m args below meth c nL D dA ad R A Q F pc lv (.int v :: .ref (ad 100) :: st) := r_putI (j := 27) X cl_X7 (by decide) rfl w_841 rfl rfl rfl rfl hk hdg kk
theorem fg_X7_91 (X : Cx p s m args meth c cc nL RX7 D dA) (hk : OB R 100 7) (hdg : decode cc pc = .ok (.getfield 91, 3)) (kk : J p l e Rm s m args below meth c nL D dA ad R A Q F (pc + 3) lv (.int (F 100 0) :: st)) : J p l e Rm s m args below meth c nL D dA ad R A Q F pc lv (.ref (ad 100) :: st) := r_getI (j := 0) X cl_X7 (by decide) rfl w_814 rfl hk hdg kk
theorem fp_X7_91 (X : Cx p s m args meth c cc nL RX7 D dA) {v : Int32} (hk : OB R 100 7) (hdg : decode cc pc = .ok (.putfield 91, 3)) (kk : ∀ F1 : HF, F1 = hup F 100 0 v → J p l e Rm s m args below meth c nL D dA ad R A Q F1 (pc + 3) lv st) : J p l e Rm s m args below meth c nL D dA ad R A Q F pc lv (.int v :: .ref (ad 100) :: st) := r_putI (j := 0) X cl_X7 (by decide) rfl w_814 rfl rfl rfl rfl hk hdg kk
theorem fg_X7_94 (X : Cx p s m args meth c cc nL RX7 D dA) (hk : OB R 100 7) (hdg : decode cc pc = .ok (.getfield 94, 3)) (kk : J p l e Rm s m args below meth c nL D dA ad R A Q F (pc + 3) lv (.int (F 100 4) :: st)) : J p l e Rm s m args below meth c nL D dA ad R A Q F pc lv (.ref (ad 100) :: st) := r_getI (j := 4) X cl_X7 (by decide) rfl w_818 rfl hk hdg kk
theorem fp_X7_94 (X : Cx p s m args meth c cc nL RX7 D dA) {v : Int32} (hk : OB R 100 7) (hdg : decode cc pc = .ok (.putfield 94, 3)) (kk : ∀ F1 : HF, F1 = hup F 100 4 v → J p l e Rm s m args below meth c nL D dA ad R A Q F1 (pc + 3) lv st) : J p l e Rm s m args below meth c nL D dA ad R A Q F pc lv (.int v :: .ref (ad 100) :: st) := r_putI (j := 4) X cl_X7 (by decide) rfl w_818 rfl rfl rfl rfl hk hdg kk
theorem fg_X7_97 (X : Cx p s m args meth c cc nL RX7 D dA) (hk : OB R 100 7) (hdg : decode cc pc = .ok (.getfield 97, 3)) (kk : J p l e Rm s m args below meth c nL D dA ad R A Q F (pc + 3) lv (.int (F 100 2) :: st)) : J p l e Rm s m args below meth c nL D dA ad R A Q F pc lv (.ref (ad 100) :: st) := r_getI (j := 2) X cl_X7 (by decide) rfl w_816 rfl hk hdg kk
theorem fp_X7_97 (X : Cx p s m args meth c cc nL RX7 D dA) {v : Int32} (hk : OB R 100 7) (hdg : decode cc pc = .ok (.putfield 97, 3)) (kk : ∀ F1 : HF, F1 = hup F 100 2 v → J p l e Rm s m args below meth c nL D dA ad R A Q F1 (pc + 3) lv st) : J p l e Rm s m args below meth c nL D dA ad R A Q F pc lv (.int v :: .ref (ad 100) :: st) := r_putI (j := 2) X cl_X7 (by decide) rfl w_816 rfl rfl rfl rfl hk hdg kk
theorem fg_X7_104 (X : Cx p s m args meth c cc nL RX7 D dA) (hk : OB R 100 7) (hdg : decode cc pc = .ok (.getfield 104, 3)) (kk : J p l e Rm s m args below meth c nL D dA ad R A Q F (pc + 3) lv (.int (F 100 6) :: st)) : J p l e Rm s m args below meth c nL D dA ad R A Q F pc lv (.ref (ad 100) :: st) := r_getI (j := 6) X cl_X7 (by decide) rfl w_820 rfl hk hdg kk
theorem fp_X7_104 (X : Cx p s m args meth c cc nL RX7 D dA) {v : Int32} (hk : OB R 100 7) (hdg : decode cc pc = .ok (.putfield 104, 3)) (kk : ∀ F1 : HF, F1 = hup F 100 6 v → J p l e Rm s m args below meth c nL D dA ad R A Q F1 (pc + 3) lv st) : J p l e Rm s m args below meth c nL D dA ad R A Q F pc lv (.int v :: .ref (ad 100) :: st) := r_putI (j := 6) X cl_X7 (by decide) rfl w_820 rfl rfl rfl rfl hk hdg kk
theorem fg_X7_111 (X : Cx p s m args meth c cc nL RX7 D dA) (hk : OB R 100 7) (hdg : decode cc pc = .ok (.getfield 111, 3)) (kk : J p l e Rm s m args below meth c nL D dA ad R A Q F (pc + 3) lv (.int (F 100 7) :: st)) : J p l e Rm s m args below meth c nL D dA ad R A Q F pc lv (.ref (ad 100) :: st) := r_getI (j := 7) X cl_X7 (by decide) rfl w_821 rfl hk hdg kk
theorem fp_X7_111 (X : Cx p s m args meth c cc nL RX7 D dA) {v : Int32} (hk : OB R 100 7) (hdg : decode cc pc = .ok (.putfield 111, 3)) (kk : ∀ F1 : HF, F1 = hup F 100 7 v → J p l e Rm s m args below meth c nL D dA ad R A Q F1 (pc + 3) lv st) : J p l e Rm s m args below meth c nL D dA ad R A Q F pc lv (.int v :: .ref (ad 100) :: st) := r_putI (j := 7) X cl_X7 (by decide) rfl w_821 rfl rfl rfl rfl hk hdg kk
theorem fg_X7_114 (X : Cx p s m args meth c cc nL RX7 D dA) (hk : OB R 100 7) (hdg : decode cc pc = .ok (.getfield 114, 3)) (kk : J p l e Rm s m args below meth c nL D dA ad R A Q F (pc + 3) lv (.int (F 100 10) :: st)) : J p l e Rm s m args below meth c nL D dA ad R A Q F pc lv (.ref (ad 100) :: st) := r_getI (j := 10) X cl_X7 (by decide) rfl w_824 rfl hk hdg kk
theorem fp_X7_114 (X : Cx p s m args meth c cc nL RX7 D dA) {v : Int32} (hk : OB R 100 7) (hdg : decode cc pc = .ok (.putfield 114, 3)) (kk : ∀ F1 : HF, F1 = hup F 100 10 v → J p l e Rm s m args below meth c nL D dA ad R A Q F1 (pc + 3) lv st) : J p l e Rm s m args below meth c nL D dA ad R A Q F pc lv (.int v :: .ref (ad 100) :: st) := r_putI (j := 10) X cl_X7 (by decide) rfl w_824 rfl rfl rfl rfl hk hdg kk
theorem fg_X7_117 (X : Cx p s m args meth c cc nL RX7 D dA) (hk : OB R 100 7) (hdg : decode cc pc = .ok (.getfield 117, 3)) (kk : J p l e Rm s m args below meth c nL D dA ad R A Q F (pc + 3) lv (.int (F 100 11) :: st)) : J p l e Rm s m args below meth c nL D dA ad R A Q F pc lv (.ref (ad 100) :: st) := r_getI (j := 11) X cl_X7 (by decide) rfl w_825 rfl hk hdg kk
theorem fp_X7_117 (X : Cx p s m args meth c cc nL RX7 D dA) {v : Int32} (hk : OB R 100 7) (hdg : decode cc pc = .ok (.putfield 117, 3)) (kk : ∀ F1 : HF, F1 = hup F 100 11 v → J p l e Rm s m args below meth c nL D dA ad R A Q F1 (pc + 3) lv st) : J p l e Rm s m args below meth c nL D dA ad R A Q F pc lv (.int v :: .ref (ad 100) :: st) := r_putI (j := 11) X cl_X7 (by decide) rfl w_825 rfl rfl rfl rfl hk hdg kk
theorem fg_X7_120 (X : Cx p s m args meth c cc nL RX7 D dA) (hk : OB R 100 7) (hdg : decode cc pc = .ok (.getfield 120, 3)) (kk : J p l e Rm s m args below meth c nL D dA ad R A Q F (pc + 3) lv (.int (F 100 12) :: st)) : J p l e Rm s m args below meth c nL D dA ad R A Q F pc lv (.ref (ad 100) :: st) := r_getI (j := 12) X cl_X7 (by decide) rfl w_826 rfl hk hdg kk
theorem fp_X7_120 (X : Cx p s m args meth c cc nL RX7 D dA) {v : Int32} (hk : OB R 100 7) (hdg : decode cc pc = .ok (.putfield 120, 3)) (kk : ∀ F1 : HF, F1 = hup F 100 12 v → J p l e Rm s m args below meth c nL D dA ad R A Q F1 (pc + 3) lv st) : J p l e Rm s m args below meth c nL D dA ad R A Q F pc lv (.int v :: .ref (ad 100) :: st) := r_putI (j := 12) X cl_X7 (by decide) rfl w_826 rfl rfl rfl rfl hk hdg kk
theorem fg_X7_123 (X : Cx p s m args meth c cc nL RX7 D dA) (hk : OB R 100 7) (hdg : decode cc pc = .ok (.getfield 123, 3)) (kk : J p l e Rm s m args below meth c nL D dA ad R A Q F (pc + 3) lv (.int (F 100 5) :: st)) : J p l e Rm s m args below meth c nL D dA ad R A Q F pc lv (.ref (ad 100) :: st) := r_getI (j := 5) X cl_X7 (by decide) rfl w_819 rfl hk hdg kk
theorem fp_X7_123 (X : Cx p s m args meth c cc nL RX7 D dA) {v : Int32} (hk : OB R 100 7) (hdg : decode cc pc = .ok (.putfield 123, 3)) (kk : ∀ F1 : HF, F1 = hup F 100 5 v → J p l e Rm s m args below meth c nL D dA ad R A Q F1 (pc + 3) lv st) : J p l e Rm s m args below meth c nL D dA ad R A Q F pc lv (.int v :: .ref (ad 100) :: st) := r_putI (j := 5) X cl_X7 (by decide) rfl w_819 rfl rfl rfl rfl hk hdg kk
theorem fg_X7_210 (X : Cx p s m args meth c cc nL RX7 D dA) (hk : OB R 100 7) (hdg : decode cc pc = .ok (.getfield 210, 3)) (kk : J p l e Rm s m args below meth c nL D dA ad R A Q F (pc + 3) lv (.int (F 100 30) :: st)) : J p l e Rm s m args below meth c nL D dA ad R A Q F pc lv (.ref (ad 100) :: st) := r_getI (j := 30) X cl_X7 (by decide) rfl w_844 rfl hk hdg kk
theorem fp_X7_210 (X : Cx p s m args meth c cc nL RX7 D dA) {v : Int32} (hk : OB R 100 7) (hdg : decode cc pc = .ok (.putfield 210, 3)) (kk : ∀ F1 : HF, F1 = hup F 100 30 v → J p l e Rm s m args below meth c nL D dA ad R A Q F1 (pc + 3) lv st) : J p l e Rm s m args below meth c nL D dA ad R A Q F pc lv (.int v :: .ref (ad 100) :: st) := r_putI (j := 30) X cl_X7 (by decide) rfl w_844 rfl rfl rfl rfl hk hdg kk
end FR
theorem g_X6_84 : GoodIn WB (wsV RX6 84 RX3 yX3_append (Cond.code yX3_append cX3_append 2 (some .boolean) :: WB)) := gV w_274 w_275 w_276 w_53 w_277
theorem g_X6_88 : GoodIn WB (wsV RX6 88 RX3 yX3_readInto (Cond.code yX3_readInto cX3_readInto 4 (some .int) :: WB)) := gV w_278 w_279 w_280 w_53 w_281
theorem g_X6_92 : GoodIn WB (wsV RX6 92 RX3 yX3_clear (Cond.code yX3_clear cX3_clear 1 none :: WB)) := gV w_325 w_326 w_327 w_53 w_328
theorem g_X6_95 : GoodIn WB (wsV RX6 95 RX3 yX3_length (Cond.code yX3_length cX3_length 1 (some .int) :: WB)) := gV w_368 w_369 w_370 w_53 w_371
theorem g_X6_96 : GoodIn WB (wsV RX6 96 RX1 yX1_birds (Cond.code yX1_birds cX1_birds 1 (some .int) :: WB)) := gV w_384 w_385 w_386 w_54 w_387
theorem g_X6_99 : GoodIn WB (wsV RX6 99 RX1 yX1_copyFrom (Cond.code yX1_copyFrom cX1_copyFrom 2 none :: WB)) := gV w_388 w_389 w_390 w_54 w_391
theorem g_X6_102 : GoodIn WB (wsV RX6 102 RX2 yX2_begin (Cond.code yX2_begin cX2_begin 1 none :: WB)) := gV w_395 w_396 w_397 w_55 w_398
theorem g_X6_105 : GoodIn WB (wsV RX6 105 RX5 yX5_clear (Cond.code yX5_clear cX5_clear 1 none :: WB)) := gV w_407 w_408 w_409 w_57 w_410
theorem g_X6_106 : GoodIn WB (wsV RX6 106 RX4 yX4_begin (Cond.code yX4_begin cX4_begin 1 none :: WB)) := gV w_411 w_412 w_413 w_59 w_414
theorem g_X6_107 : GoodIn WB (wsV RX6 107 RX6 yX6_isBird (Cond.code yX6_isBird cX6_isBird 2 (some .boolean) :: WB)) := gV w_419 w_421 w_8 w_52 w_422
theorem g_X6_110 : GoodIn WB (wsV RX6 110 RX1 yX1_strengthOf (Cond.code yX1_strengthOf cX1_strengthOf 2 (some .int) :: WB)) := gV w_423 w_424 w_425 w_54 w_426
theorem g_X6_114 : GoodIn WB (wsV RX6 114 RX1 yX1_lengthOf (Cond.code yX1_lengthOf cX1_lengthOf 2 (some .int) :: WB)) := gV w_427 w_428 w_429 w_54 w_430
theorem g_X6_117 : GoodIn WB (wsV RX6 117 RX1 yX1_kindOf (Cond.code yX1_kindOf cX1_kindOf 2 (some .int) :: WB)) := gV w_431 w_432 w_433 w_54 w_434
theorem g_X6_120 : GoodIn WB (wsV RX6 120 RX1 yX1_woodOf (Cond.code yX1_woodOf cX1_woodOf 2 (some .int) :: WB)) := gV w_435 w_436 w_437 w_54 w_438
theorem g_X6_123 : GoodIn WB (wsV RX6 123 RX2 yX2_bridge (Cond.code yX2_bridge cX2_bridge 1 (some (.object "BirdBridge$Bridge")) :: WB)) := gV w_439 w_440 w_441 w_55 w_442
theorem g_X6_127 : GoodIn WB (wsV RX6 127 RX0 yX0_tiredOf (Cond.code yX0_tiredOf cX0_tiredOf 2 (some .int) :: WB)) := gV w_443 w_444 w_445 w_56 w_446
theorem g_X6_130 : GoodIn WB (wsV RX6 130 RX0 yX0_positionOf (Cond.code yX0_positionOf cX0_positionOf 3 (some .int) :: WB)) := gV w_447 w_448 w_449 w_56 w_450
theorem g_X6_133 : GoodIn WB (wsV RX6 133 RX1 yX1_windIn (Cond.code yX1_windIn cX1_windIn 2 (some .int) :: WB)) := gV w_455 w_456 w_457 w_54 w_458
theorem g_X6_136 : GoodIn WB (wsV RX6 136 RX0 yX0_size (Cond.code yX0_size cX0_size 1 (some .int) :: WB)) := gV w_463 w_464 w_465 w_56 w_466
theorem g_X6_139 : GoodIn WB (wsV RX6 139 RX0 yX0_birdAt (Cond.code yX0_birdAt cX0_birdAt 2 (some .int) :: WB)) := gV w_467 w_468 w_469 w_56 w_470
theorem g_X6_142 : GoodIn WB (wsV RX6 142 RX0 yX0_firstPlaceOf (Cond.code yX0_firstPlaceOf cX0_firstPlaceOf 4 (some .int) :: WB)) := gV w_471 w_472 w_473 w_56 w_474
theorem g_X6_145 : GoodIn WB (wsV RX6 145 RX0 yX0_powerAt (Cond.code yX0_powerAt cX0_powerAt 5 (some .int) :: WB)) := gV w_476 w_477 w_478 w_56 w_479
theorem g_X6_148 : GoodIn WB (wsV RX6 148 RX6 yX6_loadNow (Cond.code yX6_loadNow cX6_loadNow 2 (some .int) :: WB)) := gV w_488 w_490 w_9 w_52 w_491
theorem g_X6_151 : GoodIn WB (wsV RX6 151 RX2 yX2_isFixed (Cond.code yX2_isFixed cX2_isFixed 1 (some .boolean) :: WB)) := gV w_544 w_545 w_546 w_55 w_547
theorem g_X6_155 : GoodIn WB (wsV RX6 155 RX0 yX0_mayJoin (Cond.code yX0_mayJoin cX0_mayJoin 3 (some .boolean) :: WB)) := gV w_549 w_550 w_551 w_56 w_552
theorem g_X6_158 : GoodIn WB (wsV RX6 158 RX5 yX5_put (Cond.code yX5_put cX5_put 2 none :: WB)) := gV w_564 w_565 w_566 w_57 w_567
theorem g_X6_162 : GoodIn WB (wsV RX6 162 RX0 yX0_append (Cond.code yX0_append cX0_append 2 none :: WB)) := gV w_581 w_582 w_583 w_56 w_584
theorem g_X6_165 : GoodIn WB (wsV RX6 165 RX0 yX0_dropLast (Cond.code yX0_dropLast cX0_dropLast 1 none :: WB)) := gV w_589 w_590 w_591 w_56 w_592
theorem g_X6_168 : GoodIn WB (wsV RX6 168 RX2 yX2_isBroken (Cond.code yX2_isBroken cX2_isBroken 1 (some .boolean) :: WB)) := gV w_597 w_598 w_599 w_55 w_600
theorem g_X6_171 : GoodIn WB (wsV RX6 171 RX0 yX0_isWhole (Cond.code yX0_isWhole cX0_isWhole 1 (some .boolean) :: WB)) := gV w_601 w_554 w_555 w_56 w_556
theorem g_X6_174 : GoodIn WB (wsV RX6 174 RX2 yX2_place (Cond.code yX2_place cX2_place 1 (some .int) :: WB)) := gV w_509 w_510 w_511 w_55 w_512
theorem g_X6_177 : GoodIn WB (wsV RX6 177 RX1 yX1_width (Cond.code yX1_width cX1_width 1 (some .int) :: WB)) := gV w_602 w_506 w_507 w_54 w_508
theorem g_X6_180 : GoodIn WB (wsV RX6 180 RX2 yX2_passMinuteAt (Cond.code yX2_passMinuteAt cX2_passMinuteAt 2 (some .boolean) :: WB)) := gV w_603 w_604 w_605 w_55 w_606
theorem g_X6_183 : GoodIn WB (wsV RX6 183 RX2 yX2_isOnBridge (Cond.code yX2_isOnBridge cX2_isOnBridge 1 (some .boolean) :: WB)) := gV w_501 w_502 w_503 w_55 w_504
theorem g_X6_186 : GoodIn WB (wsV RX6 186 RX2 yX2_setYear (Cond.code yX2_setYear cX2_setYear 2 none :: WB)) := gV w_632 w_633 w_634 w_55 w_635
theorem g_X6_189 : GoodIn WB (wsV RX6 189 RX2 yX2_weight (Cond.code yX2_weight cX2_weight 1 (some .int) :: WB)) := gV w_513 w_514 w_515 w_55 w_516
theorem g_X6_192 : GoodIn WB (wsV RX6 192 RX5 yX5_takeInto (Cond.code yX5_takeInto cX5_takeInto 2 (some .boolean) :: WB)) := gV w_640 w_641 w_642 w_57 w_643
theorem g_X6_196 : GoodIn WB (wsV RX6 196 RX5 yX5_size (Cond.code yX5_size cX5_size 1 (some .int) :: WB)) := gV w_644 w_645 w_646 w_57 w_647
theorem g_X6_197 : GoodIn WB (wsV RX6 197 RX0 yX0_copyFrom (Cond.code yX0_copyFrom cX0_copyFrom 2 none :: WB)) := gV w_492 w_493 w_494 w_56 w_495
theorem g_X6_200 : GoodIn WB (wsV RX6 200 RX2 yX2_minute (Cond.code yX2_minute cX2_minute 1 (some .int) :: WB)) := gV w_521 w_522 w_523 w_55 w_524
theorem g_X6_203 : GoodIn WB (wsV RX6 203 RX0 yX0_walk (Cond.code yX0_walk cX0_walk 6 (some .int) :: WB)) := gV w_652 w_653 w_654 w_56 w_655
theorem g_X6_207 : GoodIn WB (wsV RX6 207 RX4 yX4_find (Cond.code yX4_find cX4_find 2 none :: WB)) := gV w_663 w_664 w_665 w_59 w_666
theorem g_X6_210 : GoodIn WB (wsV RX6 210 RX4 yX4_foundSize (Cond.code yX4_foundSize cX4_foundSize 1 (some .int) :: WB)) := gV w_693 w_694 w_695 w_59 w_696
theorem g_X6_213 : GoodIn WB (wsV RX6 213 RX4 yX4_foundAt (Cond.code yX4_foundAt cX4_foundAt 2 (some .int) :: WB)) := gV w_697 w_698 w_699 w_59 w_700
theorem g_X6_216 : GoodIn WB (wsV RX6 216 RX6 yX6_mends (Cond.code yX6_mends cX6_mends 4 (some .boolean) :: WB)) := gV w_705 w_707 w_14 w_52 w_708
theorem g_X6_220 : GoodIn WB (wsV RX6 220 RX6 yX6_callMinute (Cond.code yX6_callMinute cX6_callMinute 8 (some .int) :: WB)) := gV w_717 w_719 w_15 w_52 w_720
theorem g_X6_229 : GoodIn WB (wsV RX6 229 RX6 yX6_bothComeOver (Cond.code yX6_bothComeOver cX6_bothComeOver 7 (some .boolean) :: WB)) := gV w_726 w_728 w_16 w_52 w_729
theorem g_X6_232 : GoodIn WB (wsV RX6 232 RX0 yX0_copyRested (Cond.code yX0_copyRested cX0_copyRested 2 none :: WB)) := gV w_730 w_731 w_732 w_56 w_733
theorem g_X6_235 : GoodIn WB (wsV RX6 235 RX1 yX1_weightIn (Cond.code yX1_weightIn cX1_weightIn 2 (some .int) :: WB)) := gV w_740 w_518 w_519 w_54 w_520
theorem g_X6_238 : GoodIn WB (wsV RX6 238 RX6 yX6_isAsSeen (Cond.code yX6_isAsSeen cX6_isAsSeen 4 (some .boolean) :: WB)) := gV w_753 w_755 w_17 w_52 w_756
theorem g_X6_245 : GoodIn WB (wsV RX6 245 RX6 yX6_comesOverByDraws (Cond.code yX6_comesOverByDraws cX6_comesOverByDraws 5 (some .boolean) :: WB)) := gV w_769 w_771 w_18 w_52 w_772
theorem g_X6_248 : GoodIn WB (wsV RX6 248 RX5 yX5_isFull (Cond.code yX5_isFull cX5_isFull 1 (some .boolean) :: WB)) := gV w_786 w_569 w_570 w_57 w_571
theorem g_X6_251 : GoodIn WB (wsV RX6 251 RX0 yX0_placesSpanned (Cond.code yX0_placesSpanned cX0_placesSpanned 1 (some .int) :: WB)) := gV w_795 w_677 w_678 w_56 w_679
theorem g_X6_254 : GoodIn WB (wsV RX6 254 RX2 yX2_yearNow (Cond.code yX2_yearNow cX2_yearNow 1 (some .int) :: WB)) := gV w_796 w_797 w_798 w_55 w_799
theorem g_X6_257 : GoodIn WB (wsV RX6 257 RX0 yX0_unload (Cond.code yX0_unload cX0_unload 2 none :: WB)) := gV w_497 w_498 w_499 w_56 w_500
theorem g_X6_260 : GoodIn WB (wsV RX6 260 RX0 yX0_press (Cond.code yX0_press cX0_press 6 none :: WB)) := gV w_525 w_526 w_527 w_56 w_528
theorem g_X6_264 : GoodIn WB (wsV RX6 264 RX0 yX0_borneAt (Cond.code yX0_borneAt cX0_borneAt 2 (some .int) :: WB)) := gV w_536 w_537 w_538 w_56 w_539
theorem g_X6_267 : GoodIn WB (wsV RX6 267 RX0 yX0_replace (Cond.code yX0_replace cX0_replace 3 none :: WB)) := gV w_709 w_710 w_711 w_56 w_712
theorem g_X6_270 : GoodIn WB (wsV RX6 270 RX0 yX0_settle (Cond.code yX0_settle cX0_settle 2 (some .boolean) :: WB)) := gV w_735 w_616 w_617 w_56 w_618
theorem g_X6_273 : GoodIn WB (wsV RX6 273 RX0 yX0_loadAlone (Cond.code yX0_loadAlone cX0_loadAlone 3 none :: WB)) := gV w_757 w_610 w_611 w_56 w_612
theorem g_X6_276 : GoodIn WB (wsV RX6 276 RX0 yX0_tire (Cond.code yX0_tire cX0_tire 4 none :: WB)) := gV w_758 w_621 w_622 w_56 w_623
theorem g_X6_279 : GoodIn WB (wsS RX6 279 yX6_drawnWind (Cond.code yX6_drawnWind cX6_drawnWind 7 (some .int) :: WB)) := gS w_773 w_774 w_52 w_775
theorem g_X0_29 : GoodIn WB (wsV RX0 29 RX0 yX0_rest (Cond.code yX0_rest cX0_rest 2 none :: WB)) := gV w_403 w_404 w_405 w_56 w_406
theorem g_X0_38 : GoodIn WB (wsV RX0 38 RX0 yX0_copyFrom (Cond.code yX0_copyFrom cX0_copyFrom 2 none :: WB)) := gV w_734 w_493 w_494 w_56 w_495
theorem g_X0_42 : GoodIn WB (wsV RX0 42 RX1 yX1_kindOf (Cond.code yX1_kindOf cX1_kindOf 2 (some .int) :: WB)) := gV w_483 w_432 w_433 w_54 w_434
theorem g_X0_48 : GoodIn WB (wsV RX0 48 RX1 yX1_lengthOf (Cond.code yX1_lengthOf cX1_lengthOf 2 (some .int) :: WB)) := gV w_475 w_428 w_429 w_54 w_430
theorem g_X0_51 : GoodIn WB (wsV RX0 51 RX0 yX0_firstPlaceOf (Cond.code yX0_firstPlaceOf cX0_firstPlaceOf 4 (some .int) :: WB)) := gV w_557 w_472 w_473 w_56 w_474
theorem g_X0_54 : GoodIn WB (wsV RX0 54 RX1 yX1_width (Cond.code yX1_width cX1_width 1 (some .int) :: WB)) := gV w_558 w_506 w_507 w_54 w_508
theorem g_X0_64 : GoodIn WB (wsV RX0 64 RX0 yX0_isWhole (Cond.code yX0_isWhole cX0_isWhole 1 (some .boolean) :: WB)) := gV w_553 w_554 w_555 w_56 w_556
theorem g_X0_68 : GoodIn WB (wsV RX0 68 RX0 yX0_positionOf (Cond.code yX0_positionOf cX0_positionOf 3 (some .int) :: WB)) := gV w_559 w_448 w_449 w_56 w_450
theorem g_X0_71 : GoodIn WB (wsV RX0 71 RX1 yX1_hasCrow (Cond.code yX1_hasCrow cX1_hasCrow 2 (some .boolean) :: WB)) := gV w_560 w_561 w_562 w_54 w_563
theorem g_X0_74 : GoodIn WB (wsV RX0 74 RX0 yX0_kindAt (Cond.code yX0_kindAt cX0_kindAt 2 (some .int) :: WB)) := gV w_484 w_485 w_486 w_56 w_487
theorem g_X0_77 : GoodIn WB (wsV RX0 77 RX0 yX0_birdAt (Cond.code yX0_birdAt cX0_birdAt 2 (some .int) :: WB)) := gV w_480 w_468 w_469 w_56 w_470
theorem g_X0_80 : GoodIn WB (wsV RX0 80 RX1 yX1_strengthOf (Cond.code yX1_strengthOf cX1_strengthOf 2 (some .int) :: WB)) := gV w_481 w_424 w_425 w_54 w_426
theorem g_X0_83 : GoodIn WB (wsV RX0 83 RX0 yX0_tiredOf (Cond.code yX0_tiredOf cX0_tiredOf 2 (some .int) :: WB)) := gV w_482 w_444 w_445 w_56 w_446
theorem g_X0_86 : GoodIn WB (wsV RX0 86 RX0 yX0_whoSpans (Cond.code yX0_whoSpans cX0_whoSpans 4 (some .int) :: WB)) := gV w_529 w_531 w_10 w_56 w_532
theorem g_X0_92 : GoodIn WB (wsV RX0 92 RX0 yX0_unload (Cond.code yX0_unload cX0_unload 2 none :: WB)) := gV w_613 w_498 w_499 w_56 w_500
theorem g_X0_95 : GoodIn WB (wsV RX0 95 RX0 yX0_press (Cond.code yX0_press cX0_press 6 none :: WB)) := gV w_614 w_526 w_527 w_56 w_528
theorem g_X0_99 : GoodIn WB (wsV RX0 99 RX0 yX0_powerAt (Cond.code yX0_powerAt cX0_powerAt 5 (some .int) :: WB)) := gV w_619 w_477 w_478 w_56 w_479
theorem g_X0_102 : GoodIn WB (wsV RX0 102 RX0 yX0_tire (Cond.code yX0_tire cX0_tire 4 none :: WB)) := gV w_620 w_621 w_622 w_56 w_623
theorem g_X0_105 : GoodIn WB (wsV RX0 105 RX1 yX1_windIn (Cond.code yX1_windIn cX1_windIn 2 (some .int) :: WB)) := gV w_656 w_456 w_457 w_54 w_458
theorem g_X0_108 : GoodIn WB (wsV RX0 108 RX0 yX0_loadAlone (Cond.code yX0_loadAlone cX0_loadAlone 3 none :: WB)) := gV w_657 w_610 w_611 w_56 w_612
theorem g_X0_111 : GoodIn WB (wsV RX0 111 RX0 yX0_settle (Cond.code yX0_settle cX0_settle 2 (some .boolean) :: WB)) := gV w_658 w_616 w_617 w_56 w_618
theorem g_X1_27 : GoodIn WB (wsV RX1 27 RX1 yX1_clear (Cond.code yX1_clear cX1_clear 1 none :: WB)) := gV w_98 w_99 w_100 w_54 w_101
theorem g_X1_52 : GoodIn WB (wsV RX1 52 RX1 yX1_takeBird (Cond.code yX1_takeBird cX1_takeBird 5 (some .boolean) :: WB)) := gV w_309 w_311 w_4 w_54 w_312
theorem g_X1_56 : GoodIn WB (wsV RX1 56 RX1 yX1_takeRiver (Cond.code yX1_takeRiver cX1_takeRiver 2 (some .boolean) :: WB)) := gV w_313 w_315 w_5 w_54 w_316
theorem g_X1_60 : GoodIn WB (wsV RX1 60 RX1 yX1_takeWind (Cond.code yX1_takeWind cX1_takeWind 2 (some .boolean) :: WB)) := gV w_317 w_319 w_6 w_54 w_320
theorem g_X1_63 : GoodIn WB (wsV RX1 63 RX1 yX1_takeLoad (Cond.code yX1_takeLoad cX1_takeLoad 3 (some .boolean) :: WB)) := gV w_321 w_323 w_7 w_54 w_324
theorem g_X2_38 : GoodIn WB (wsV RX2 38 RX0 yX0_clear (Cond.code yX0_clear cX0_clear 1 none :: WB)) := gV w_399 w_400 w_401 w_56 w_402
theorem g_X2_41 : GoodIn WB (wsV RX2 41 RX0 yX0_copyFrom (Cond.code yX0_copyFrom cX0_copyFrom 2 none :: WB)) := gV w_580 w_493 w_494 w_56 w_495
theorem g_X2_45 : GoodIn WB (wsV RX2 45 RX1 yX1_weightIn (Cond.code yX1_weightIn cX1_weightIn 2 (some .int) :: WB)) := gV w_517 w_518 w_519 w_54 w_520
theorem g_X2_51 : GoodIn WB (wsV RX2 51 RX1 yX1_width (Cond.code yX1_width cX1_width 1 (some .int) :: WB)) := gV w_505 w_506 w_507 w_54 w_508
theorem g_X2_55 : GoodIn WB (wsV RX2 55 RX2 yX2_isOnBridge (Cond.code yX2_isOnBridge cX2_isOnBridge 1 (some .boolean) :: WB)) := gV w_548 w_502 w_503 w_55 w_504
theorem g_X2_59 : GoodIn WB (wsV RX2 59 RX2 yX2_weight (Cond.code yX2_weight cX2_weight 1 (some .int) :: WB)) := gV w_607 w_514 w_515 w_55 w_516
theorem g_X2_62 : GoodIn WB (wsV RX2 62 RX1 yX1_windIn (Cond.code yX1_windIn cX1_windIn 2 (some .int) :: WB)) := gV w_608 w_456 w_457 w_54 w_458
theorem g_X2_65 : GoodIn WB (wsV RX2 65 RX0 yX0_loadAlone (Cond.code yX0_loadAlone cX0_loadAlone 3 none :: WB)) := gV w_609 w_610 w_611 w_56 w_612
theorem g_X2_69 : GoodIn WB (wsV RX2 69 RX0 yX0_settle (Cond.code yX0_settle cX0_settle 2 (some .boolean) :: WB)) := gV w_615 w_616 w_617 w_56 w_618
theorem g_X3_23 : GoodIn WB (wsV RX3 23 RX1 yX1_clear (Cond.code yX1_clear cX1_clear 1 none :: WB)) := gV w_282 w_99 w_100 w_54 w_101
theorem g_X3_28 : GoodIn WB (wsV RX3 28 RX3 yX3_readItem (Cond.code yX3_readItem cX3_readItem 6 (some .int) :: WB)) := gV w_283 w_285 w_0 w_53 w_286
theorem g_X3_32 : GoodIn WB (wsV RX3 32 RX3 yX3_letterAt (Cond.code yX3_letterAt cX3_letterAt 2 (some .char) :: WB)) := gV w_287 w_289 w_1 w_53 w_290
theorem g_X3_36 : GoodIn WB (wsV RX3 36 RX1 yX1_take (Cond.code yX1_take cX1_take 3 (some .boolean) :: WB)) := gV w_305 w_306 w_307 w_54 w_308
theorem g_X3_40 : GoodIn WB (wsS RX3 40 yX3_numbersBehind (Cond.code yX3_numbersBehind cX3_numbersBehind 1 (some .int) :: WB)) := gS w_291 w_292 w_53 w_293
theorem g_X3_44 : GoodIn WB (wsV RX3 44 RX3 yX3_figuresFrom (Cond.code yX3_figuresFrom cX3_figuresFrom 2 (some .int) :: WB)) := gV w_294 w_296 w_2 w_53 w_297
theorem g_X3_47 : GoodIn WB (wsV RX3 47 RX3 yX3_numberAt (Cond.code yX3_numberAt cX3_numberAt 5 (some .int) :: WB)) := gV w_301 w_303 w_3 w_53 w_304
theorem g_X3_51 : GoodIn WB (wsS RX3 51 yX3_isFigure (Cond.code yX3_isFigure cX3_isFigure 1 (some .boolean) :: WB)) := gS w_298 w_299 w_53 w_300
theorem g_X4_35 : GoodIn WB (wsV RX4 35 RX0 yX0_clear (Cond.code yX0_clear cX0_clear 1 none :: WB)) := gV w_667 w_400 w_401 w_56 w_402
theorem g_X4_38 : GoodIn WB (wsV RX4 38 RX4 yX4_extend (Cond.code yX4_extend cX4_extend 6 none :: WB)) := gV w_668 w_670 w_12 w_59 w_671
theorem g_X4_42 : GoodIn WB (wsV RX4 42 RX1 yX1_birds (Cond.code yX1_birds cX1_birds 1 (some .int) :: WB)) := gV w_672 w_385 w_386 w_54 w_387
theorem g_X4_48 : GoodIn WB (wsV RX4 48 RX0 yX0_mayJoin (Cond.code yX0_mayJoin cX0_mayJoin 3 (some .boolean) :: WB)) := gV w_673 w_550 w_551 w_56 w_552
theorem g_X4_52 : GoodIn WB (wsV RX4 52 RX0 yX0_append (Cond.code yX0_append cX0_append 2 none :: WB)) := gV w_674 w_582 w_583 w_56 w_584
theorem g_X4_56 : GoodIn WB (wsV RX4 56 RX0 yX0_rest (Cond.code yX0_rest cX0_rest 2 none :: WB)) := gV w_675 w_404 w_405 w_56 w_406
theorem g_X4_59 : GoodIn WB (wsV RX4 59 RX0 yX0_placesSpanned (Cond.code yX0_placesSpanned cX0_placesSpanned 1 (some .int) :: WB)) := gV w_676 w_677 w_678 w_56 w_679
theorem g_X4_62 : GoodIn WB (wsV RX4 62 RX0 yX0_walk (Cond.code yX0_walk cX0_walk 6 (some .int) :: WB)) := gV w_683 w_653 w_654 w_56 w_655
theorem g_X4_66 : GoodIn WB (wsV RX4 66 RX0 yX0_isWhole (Cond.code yX0_isWhole cX0_isWhole 1 (some .boolean) :: WB)) := gV w_684 w_554 w_555 w_56 w_556
theorem g_X4_70 : GoodIn WB (wsV RX4 70 RX4 yX4_noteFound (Cond.code yX4_noteFound cX4_noteFound 2 none :: WB)) := gV w_685 w_687 w_13 w_59 w_688
theorem g_X4_73 : GoodIn WB (wsV RX4 73 RX1 yX1_kindOf (Cond.code yX1_kindOf cX1_kindOf 2 (some .int) :: WB)) := gV w_691 w_432 w_433 w_54 w_434
theorem g_X4_77 : GoodIn WB (wsV RX4 77 RX0 yX0_dropLast (Cond.code yX0_dropLast cX0_dropLast 1 none :: WB)) := gV w_692 w_590 w_591 w_56 w_592
theorem g_X4_80 : GoodIn WB (wsV RX4 80 RX0 yX0_size (Cond.code yX0_size cX0_size 1 (some .int) :: WB)) := gV w_689 w_464 w_465 w_56 w_466
theorem g_X4_83 : GoodIn WB (wsV RX4 83 RX0 yX0_birdAt (Cond.code yX0_birdAt cX0_birdAt 2 (some .int) :: WB)) := gV w_690 w_468 w_469 w_56 w_470
theorem g_X5_28 : GoodIn WB (wsV RX5 28 RX5 yX5_isFull (Cond.code yX5_isFull cX5_isFull 1 (some .boolean) :: WB)) := gV w_568 w_569 w_570 w_57 w_571
theorem g_X5_32 : GoodIn WB (wsV RX5 32 RX5 yX5_giveUpOldest (Cond.code yX5_giveUpOldest cX5_giveUpOldest 3 none :: WB)) := gV w_572 w_574 w_11 w_57 w_575
theorem g_X5_35 : GoodIn WB (wsV RX5 35 RX2 yX2_copyFrom (Cond.code yX2_copyFrom cX2_copyFrom 2 none :: WB)) := gV w_576 w_577 w_578 w_55 w_579
theorem g_L_13 : GoodIn WB (wsV RL 13 RX6 yX6_write (Cond.code yX6_write cX6_write 2 (some .int) :: WB)) := gV w_364 w_365 w_366 w_52 w_367
theorem g_L_17 : GoodIn WB (wsV RL 17 RX7 yX7_write (Cond.code yX7_write cX7_write 2 (some .int) :: WB)) := gV w_914 w_915 w_916 w_64 w_917
theorem g_L_18 : GoodIn WB (wsV RL 18 RX6 yX6_wipe (Cond.code yX6_wipe cX6_wipe 2 (some .int) :: WB)) := gV w_372 w_373 w_374 w_52 w_375
theorem g_L_22 : GoodIn WB (wsV RL 22 RX7 yX7_wipe (Cond.code yX7_wipe cX7_wipe 2 (some .int) :: WB)) := gV w_921 w_922 w_923 w_64 w_924
theorem g_L_23 : GoodIn WB (wsV RL 23 RX6 yX6_fault (Cond.code yX6_fault cX6_fault 1 (some .int) :: WB)) := gV w_376 w_377 w_378 w_52 w_379
theorem g_L_26 : GoodIn WB (wsV RL 26 RX7 yX7_fault (Cond.code yX7_fault cX7_fault 1 (some .int) :: WB)) := gV w_925 w_926 w_927 w_64 w_928
theorem g_L_27 : GoodIn WB (wsV RL 27 RX6 yX6_lay (Cond.code yX6_lay cX6_lay 1 (some .int) :: WB)) := gV w_380 w_381 w_382 w_52 w_383
theorem g_L_30 : GoodIn WB (wsV RL 30 RX7 yX7_lay (Cond.code yX7_lay cX7_lay 2 (some .int) :: WB)) := gV w_945 w_946 w_947 w_64 w_948
theorem g_L_31 : GoodIn WB (wsV RL 31 RX6 yX6_bird (Cond.code yX6_bird cX6_bird 3 (some .int) :: WB)) := gV w_415 w_416 w_417 w_52 w_418
theorem g_L_35 : GoodIn WB (wsV RL 35 RX7 yX7_bird (Cond.code yX7_bird cX7_bird 3 (some .int) :: WB)) := gV w_949 w_950 w_951 w_64 w_952
theorem g_L_36 : GoodIn WB (wsV RL 36 RX6 yX6_wind (Cond.code yX6_wind cX6_wind 2 (some .int) :: WB)) := gV w_451 w_452 w_453 w_52 w_454
theorem g_L_39 : GoodIn WB (wsV RL 39 RX7 yX7_wind (Cond.code yX7_wind cX7_wind 2 (some .int) :: WB)) := gV w_961 w_962 w_963 w_64 w_964
theorem g_L_40 : GoodIn WB (wsV RL 40 RX6 yX6_span (Cond.code yX6_span cX6_span 4 (some .int) :: WB)) := gV w_459 w_460 w_461 w_52 w_462
theorem g_L_43 : GoodIn WB (wsV RL 43 RX7 yX7_span (Cond.code yX7_span cX7_span 3 (some .int) :: WB)) := gV w_969 w_970 w_971 w_64 w_972
theorem g_L_44 : GoodIn WB (wsV RL 44 RX6 yX6_join (Cond.code yX6_join cX6_join 2 (some .int) :: WB)) := gV w_540 w_541 w_542 w_52 w_543
theorem g_L_47 : GoodIn WB (wsV RL 47 RX7 yX7_join (Cond.code yX7_join cX7_join 2 (some .int) :: WB)) := gV w_1008 w_1009 w_1010 w_64 w_1011
theorem g_L_48 : GoodIn WB (wsV RL 48 RX6 yX6_leave (Cond.code yX6_leave cX6_leave 3 (some .int) :: WB)) := gV w_585 w_586 w_587 w_52 w_588
theorem g_L_51 : GoodIn WB (wsV RL 51 RX7 yX7_leave (Cond.code yX7_leave cX7_leave 1 (some .int) :: WB)) := gV w_1035 w_1036 w_1037 w_64 w_1038
theorem g_L_52 : GoodIn WB (wsV RL 52 RX6 yX6_step (Cond.code yX6_step cX6_step 1 (some .int) :: WB)) := gV w_593 w_594 w_595 w_52 w_596
theorem g_L_55 : GoodIn WB (wsV RL 55 RX7 yX7_step (Cond.code yX7_step cX7_step 1 (some .int) :: WB)) := gV w_1039 w_1040 w_1041 w_64 w_1042
theorem g_L_56 : GoodIn WB (wsV RL 56 RX6 yX6_stand (Cond.code yX6_stand cX6_stand 1 (some .int) :: WB)) := gV w_624 w_625 w_626 w_52 w_627
theorem g_L_59 : GoodIn WB (wsV RL 59 RX7 yX7_stand (Cond.code yX7_stand cX7_stand 1 (some .int) :: WB)) := gV w_1055 w_1056 w_1057 w_64 w_1058
theorem g_L_60 : GoodIn WB (wsV RL 60 RX6 yX6_year (Cond.code yX6_year cX6_year 2 (some .int) :: WB)) := gV w_628 w_629 w_630 w_52 w_631
theorem g_L_63 : GoodIn WB (wsV RL 63 RX7 yX7_year (Cond.code yX7_year cX7_year 2 (some .int) :: WB)) := gV w_1059 w_1060 w_1061 w_64 w_1062
theorem g_L_64 : GoodIn WB (wsV RL 64 RX6 yX6_undo (Cond.code yX6_undo cX6_undo 1 (some .int) :: WB)) := gV w_636 w_637 w_638 w_52 w_639
theorem g_L_67 : GoodIn WB (wsV RL 67 RX7 yX7_undo (Cond.code yX7_undo cX7_undo 1 (some .int) :: WB)) := gV w_1063 w_1064 w_1065 w_64 w_1066
theorem g_L_68 : GoodIn WB (wsV RL 68 RX6 yX6_over (Cond.code yX6_over cX6_over 5 (some .int) :: WB)) := gV w_648 w_649 w_650 w_52 w_651
theorem g_L_71 : GoodIn WB (wsV RL 71 RX7 yX7_over (Cond.code yX7_over cX7_over 2 (some .int) :: WB)) := gV w_1067 w_1068 w_1069 w_64 w_1070
theorem g_L_72 : GoodIn WB (wsV RL 72 RX6 yX6_fewest (Cond.code yX6_fewest cX6_fewest 2 (some .int) :: WB)) := gV w_659 w_660 w_661 w_52 w_662
theorem g_L_75 : GoodIn WB (wsV RL 75 RX7 yX7_fewest (Cond.code yX7_fewest cX7_fewest 2 (some .int) :: WB)) := gV w_1075 w_1076 w_1077 w_64 w_1078
theorem g_L_76 : GoodIn WB (wsV RL 76 RX6 yX6_mend (Cond.code yX6_mend cX6_mend 4 (some .int) :: WB)) := gV w_701 w_702 w_703 w_52 w_704
theorem g_L_79 : GoodIn WB (wsV RL 79 RX7 yX7_mend (Cond.code yX7_mend cX7_mend 3 (some .int) :: WB)) := gV w_1091 w_1092 w_1093 w_64 w_1094
theorem g_L_80 : GoodIn WB (wsV RL 80 RX6 yX6_calls (Cond.code yX6_calls cX6_calls 6 (some .int) :: WB)) := gV w_713 w_714 w_715 w_52 w_716
theorem g_L_83 : GoodIn WB (wsV RL 83 RX7 yX7_calls (Cond.code yX7_calls cX7_calls 8 (some .int) :: WB)) := gV w_1095 w_1096 w_1097 w_64 w_1098
theorem g_L_84 : GoodIn WB (wsV RL 84 RX6 yX6_second (Cond.code yX6_second cX6_second 3 (some .int) :: WB)) := gV w_722 w_723 w_724 w_52 w_725
theorem g_L_87 : GoodIn WB (wsV RL 87 RX7 yX7_second (Cond.code yX7_second cX7_second 3 (some .int) :: WB)) := gV w_1102 w_1103 w_1104 w_64 w_1105
theorem g_L_88 : GoodIn WB (wsV RL 88 RX6 yX6_years (Cond.code yX6_years cX6_years 2 (some .int) :: WB)) := gV w_736 w_737 w_738 w_52 w_739
theorem g_L_91 : GoodIn WB (wsV RL 91 RX7 yX7_years (Cond.code yX7_years cX7_years 2 (some .int) :: WB)) := gV w_1110 w_1111 w_1112 w_64 w_1113
theorem g_L_92 : GoodIn WB (wsV RL 92 RX6 yX6_seen (Cond.code yX6_seen cX6_seen 3 (some .int) :: WB)) := gV w_741 w_742 w_743 w_52 w_744
theorem g_L_95 : GoodIn WB (wsV RL 95 RX7 yX7_seen (Cond.code yX7_seen cX7_seen 3 (some .int) :: WB)) := gV w_1114 w_1115 w_1116 w_64 w_1117
theorem g_L_96 : GoodIn WB (wsV RL 96 RX6 yX6_forget (Cond.code yX6_forget cX6_forget 2 (some .int) :: WB)) := gV w_745 w_746 w_747 w_52 w_748
theorem g_L_99 : GoodIn WB (wsV RL 99 RX7 yX7_forget (Cond.code yX7_forget cX7_forget 2 (some .int) :: WB)) := gV w_1118 w_1119 w_1120 w_64 w_1121
theorem g_L_100 : GoodIn WB (wsV RL 100 RX6 yX6_stood (Cond.code yX6_stood cX6_stood 4 (some .int) :: WB)) := gV w_749 w_750 w_751 w_52 w_752
theorem g_L_103 : GoodIn WB (wsV RL 103 RX7 yX7_stood (Cond.code yX7_stood cX7_stood 4 (some .int) :: WB)) := gV w_1122 w_1123 w_1124 w_64 w_1125
theorem g_L_104 : GoodIn WB (wsV RL 104 RX6 yX6_rain (Cond.code yX6_rain cX6_rain 7 (some .int) :: WB)) := gV w_759 w_760 w_761 w_52 w_762
theorem g_L_107 : GoodIn WB (wsV RL 107 RX7 yX7_rain (Cond.code yX7_rain cX7_rain 7 (some .int) :: WB)) := gV w_1130 w_1131 w_1132 w_64 w_1133
theorem g_L_108 : GoodIn WB (wsV RL 108 RX6 yX6_century (Cond.code yX6_century cX6_century 7 (some .int) :: WB)) := gV w_765 w_766 w_767 w_52 w_768
theorem g_L_112 : GoodIn WB (wsV RL 112 RX7 yX7_century (Cond.code yX7_century cX7_century 8 (some .int) :: WB)) := gV w_1136 w_1137 w_1138 w_64 w_1139
theorem g_L_113 : GoodIn WB (wsV RL 113 RX6 yX6_keep (Cond.code yX6_keep cX6_keep 1 (some .int) :: WB)) := gV w_782 w_783 w_784 w_52 w_785
theorem g_L_116 : GoodIn WB (wsV RL 116 RX7 yX7_keep (Cond.code yX7_keep cX7_keep 1 (some .int) :: WB)) := gV w_1150 w_1151 w_1152 w_64 w_1153
theorem g_L_117 : GoodIn WB (wsV RL 117 RX6 yX6_back (Cond.code yX6_back cX6_back 1 (some .int) :: WB)) := gV w_787 w_788 w_789 w_52 w_790
theorem g_L_120 : GoodIn WB (wsV RL 120 RX7 yX7_back (Cond.code yX7_back cX7_back 1 (some .int) :: WB)) := gV w_1154 w_1155 w_1156 w_64 w_1157
theorem g_L_121 : GoodIn WB (wsV RL 121 RX6 yX6_count (Cond.code yX6_count cX6_count 2 (some .int) :: WB)) := gV w_791 w_792 w_793 w_52 w_794
theorem g_L_124 : GoodIn WB (wsV RL 124 RX7 yX7_count (Cond.code yX7_count cX7_count 2 (some .int) :: WB)) := gV w_1158 w_1159 w_1160 w_64 w_1161
theorem g_X7_71 : GoodIn WB (wsV RX7 71 RX7 yX7_layBird (Cond.code yX7_layBird cX7_layBird 6 none :: WB)) := gV w_806 w_808 w_19 w_64 w_809
theorem g_X7_75 : GoodIn WB (wsV RX7 75 RX7 yX7_begin (Cond.code yX7_begin cX7_begin 2 none :: WB)) := gV w_810 w_812 w_20 w_64 w_813
theorem g_X7_87 : GoodIn WB (wsS RX7 87 yX7_in (Cond.code yX7_in cX7_in 3 (some .boolean) :: WB)) := gS w_918 w_919 w_64 w_920
theorem g_X7_100 : GoodIn WB (wsV RX7 100 RX7 yX7_letterAt (Cond.code yX7_letterAt cX7_letterAt 2 (some .int) :: WB)) := gV w_937 w_939 w_23 w_64 w_940
theorem g_X7_107 : GoodIn WB (wsV RX7 107 RX7 yX7_isRow (Cond.code yX7_isRow cX7_isRow 4 (some .boolean) :: WB)) := gV w_941 w_943 w_24 w_64 w_944
theorem g_X7_126 : GoodIn WB (wsV RX7 126 RX7 yX7_isItem (Cond.code yX7_isItem cX7_isItem 4 (some .boolean) :: WB)) := gV w_933 w_935 w_22 w_64 w_936
theorem g_X7_130 : GoodIn WB (wsV RX7 130 RX7 yX7_isRead (Cond.code yX7_isRead cX7_isRead 1 (some .boolean) :: WB)) := gV w_929 w_931 w_21 w_64 w_932
theorem g_X7_133 : GoodIn WB (wsV RX7 133 RX7 yX7_isBird (Cond.code yX7_isBird cX7_isBird 2 (some .boolean) :: WB)) := gV w_953 w_955 w_25 w_64 w_956
theorem g_X7_136 : GoodIn WB (wsV RX7 136 RX7 yX7_placeIn (Cond.code yX7_placeIn cX7_placeIn 3 (some .int) :: WB)) := gV w_957 w_959 w_26 w_64 w_960
theorem g_X7_139 : GoodIn WB (wsV RX7 139 RX7 yX7_windIn (Cond.code yX7_windIn cX7_windIn 2 (some .int) :: WB)) := gV w_965 w_967 w_27 w_64 w_968
theorem g_X7_142 : GoodIn WB (wsV RX7 142 RX7 yX7_firstOf (Cond.code yX7_firstOf cX7_firstOf 5 (some .int) :: WB)) := gV w_992 w_994 w_32 w_64 w_995
theorem g_X7_146 : GoodIn WB (wsV RX7 146 RX7 yX7_spanned (Cond.code yX7_spanned cX7_spanned 3 (some .int) :: WB)) := gV w_1024 w_1026 w_39 w_64 w_1027
theorem g_X7_150 : GoodIn WB (wsV RX7 150 RX7 yX7_kindOf (Cond.code yX7_kindOf cX7_kindOf 2 (some .int) :: WB)) := gV w_1000 w_1002 w_34 w_64 w_1003
theorem g_X7_153 : GoodIn WB (wsV RX7 153 RX7 yX7_isPair (Cond.code yX7_isPair cX7_isPair 3 (some .boolean) :: WB)) := gV w_1004 w_1006 w_35 w_64 w_1007
theorem g_X7_157 : GoodIn WB (wsV RX7 157 RX7 yX7_holderOf (Cond.code yX7_holderOf cX7_holderOf 5 (some .int) :: WB)) := gV w_988 w_990 w_31 w_64 w_991
theorem g_X7_160 : GoodIn WB (wsV RX7 160 RX7 yX7_powerOf (Cond.code yX7_powerOf cX7_powerOf 6 (some .int) :: WB)) := gV w_996 w_998 w_33 w_64 w_999
theorem g_X7_163 : GoodIn WB (wsV RX7 163 RX7 yX7_tire (Cond.code yX7_tire cX7_tire 5 none :: WB)) := gV w_1051 w_1053 w_43 w_64 w_1054
theorem g_X7_167 : GoodIn WB (wsV RX7 167 RX7 yX7_noLoads (Cond.code yX7_noLoads cX7_noLoads 2 none :: WB)) := gV w_973 w_975 w_28 w_64 w_976
theorem g_X7_170 : GoodIn WB (wsS RX7 170 yX7_isOn (Cond.code yX7_isOn cX7_isOn 2 (some .boolean) :: WB)) := gS w_977 w_978 w_64 w_979
theorem g_X7_174 : GoodIn WB (wsV RX7 174 RX7 yX7_weightIn (Cond.code yX7_weightIn cX7_weightIn 2 (some .int) :: WB)) := gV w_980 w_982 w_29 w_64 w_983
theorem g_X7_177 : GoodIn WB (wsV RX7 177 RX7 yX7_bear (Cond.code yX7_bear cX7_bear 7 none :: WB)) := gV w_984 w_986 w_30 w_64 w_987
theorem g_X7_181 : GoodIn WB (wsV RX7 181 RX7 yX7_holds (Cond.code yX7_holds cX7_holds 3 (some .boolean) :: WB)) := gV w_1047 w_1049 w_42 w_64 w_1050
theorem g_X7_185 : GoodIn WB (wsS RX7 185 yX7_copy (Cond.code yX7_copy cX7_copy 5 none :: WB)) := gS w_1032 w_1033 w_64 w_1034
theorem g_X7_189 : GoodIn WB (wsV RX7 189 RX7 yX7_isWhole (Cond.code yX7_isWhole cX7_isWhole 2 (some .boolean) :: WB)) := gV w_1020 w_1022 w_38 w_64 w_1023
theorem g_X7_192 : GoodIn WB (wsV RX7 192 RX7 yX7_isShut (Cond.code yX7_isShut cX7_isShut 1 (some .boolean) :: WB)) := gV w_1012 w_1014 w_36 w_64 w_1015
theorem g_X7_195 : GoodIn WB (wsV RX7 195 RX7 yX7_mayJoin (Cond.code yX7_mayJoin cX7_mayJoin 6 (some .boolean) :: WB)) := gV w_1016 w_1018 w_37 w_64 w_1019
theorem g_X7_198 : GoodIn WB (wsV RX7 198 RX7 yX7_note (Cond.code yX7_note cX7_note 2 none :: WB)) := gV w_1028 w_1030 w_40 w_64 w_1031
theorem g_X7_201 : GoodIn WB (wsV RX7 201 RX7 yX7_passes (Cond.code yX7_passes cX7_passes 4 (some .boolean) :: WB)) := gV w_1043 w_1045 w_41 w_64 w_1046
theorem g_X7_204 : GoodIn WB (wsV RX7 204 RX7 yX7_goesOver (Cond.code yX7_goesOver cX7_goesOver 2 (some .boolean) :: WB)) := gV w_1071 w_1073 w_44 w_64 w_1074
theorem g_X7_207 : GoodIn WB (wsV RX7 207 RX7 yX7_freshen (Cond.code yX7_freshen cX7_freshen 3 none :: WB)) := gV w_1087 w_1089 w_47 w_64 w_1090
theorem g_X7_213 : GoodIn WB (wsV RX7 213 RX7 yX7_findOf (Cond.code yX7_findOf cX7_findOf 5 (some .boolean) :: WB)) := gV w_1083 w_1085 w_46 w_64 w_1086
theorem g_X7_216 : GoodIn WB (wsV RX7 216 RX7 yX7_layFewest (Cond.code yX7_layFewest cX7_layFewest 3 none :: WB)) := gV w_1079 w_1081 w_45 w_64 w_1082
theorem g_X7_219 : GoodIn WB (wsS RX7 219 yX7_has (Cond.code yX7_has cX7_has 2 (some .boolean) :: WB)) := gS w_1099 w_1100 w_64 w_1101
theorem g_X7_222 : GoodIn WB (wsV RX7 222 RX7 yX7_bothGo (Cond.code yX7_bothGo cX7_bothGo 7 (some .boolean) :: WB)) := gV w_1106 w_1108 w_48 w_64 w_1109
theorem g_X7_225 : GoodIn WB (wsV RX7 225 RX7 yX7_isStood (Cond.code yX7_isStood cX7_isStood 5 (some .boolean) :: WB)) := gV w_1126 w_1128 w_49 w_64 w_1129
theorem g_X7_244 : GoodIn WB (wsV RX7 244 RX7 yX7_comesOver (Cond.code yX7_comesOver cX7_comesOver 6 (some .boolean) :: WB)) := gV w_1140 w_1142 w_50 w_64 w_1143
end
section
theorem dX1_clear_0 : decode cX1_clear 0 = .ok (.aload_n 0, 1) := by decide +kernel
theorem dX1_clear_1 : decode cX1_clear 1 = .ok (.iconst 0, 1) := by decide +kernel
theorem dX1_clear_2 : decode cX1_clear 2 = .ok (.putfield 30, 3) := by decide +kernel
theorem dX1_clear_5 : decode cX1_clear 5 = .ok (.aload_n 0, 1) := by decide +kernel
theorem dX1_clear_6 : decode cX1_clear 6 = .ok (.iconst 0, 1) := by decide +kernel
theorem dX1_clear_7 : decode cX1_clear 7 = .ok (.putfield 34, 3) := by decide +kernel
theorem dX1_clear_10 : decode cX1_clear 10 = .ok (.aload_n 0, 1) := by decide +kernel
theorem dX1_clear_11 : decode cX1_clear 11 = .ok (.iconst 5, 1) := by decide +kernel
theorem dX1_clear_12 : decode cX1_clear 12 = .ok (.putfield 37, 3) := by decide +kernel
theorem dX1_clear_15 : decode cX1_clear 15 = .ok (.aload_n 0, 1) := by decide +kernel
theorem dX1_clear_16 : decode cX1_clear 16 = .ok (.bipush 12, 2) := by decide +kernel
theorem dX1_clear_18 : decode cX1_clear 18 = .ok (.putfield 40, 3) := by decide +kernel
theorem dX1_clear_21 : decode cX1_clear 21 = .ok (.aload_n 0, 1) := by decide +kernel
theorem dX1_clear_22 : decode cX1_clear 22 = .ok (.iconst 1, 1) := by decide +kernel
theorem dX1_clear_23 : decode cX1_clear 23 = .ok (.putfield 43, 3) := by decide +kernel
theorem dX1_clear_26 : decode cX1_clear 26 = .ok (.return_, 1) := by decide +kernel
theorem hd_X1_clear : yX1_clear.cls = RX1 ∧ yX1_clear.cls ≠ "java/lang/invoke/MethodHandle" ∧ yX1_clear.cls ≠ "java/lang/invoke/VarHandle" ∧ (parseMethodDescriptor yX1_clear.desc).map (fun d => d.parameters.length) = some 0 := by decide +kernel
abbrev rm_X1_clear : Room := { frames := 0, cells := 0, slots := 0, locals := 0 }
def wp_X1_clear (K : HF → Prop) (F : HF) (f : Nat) : Prop := ∀ F1 : HF, F1 = hup F f 5 (0 : Int32) → (∀ F2 : HF, F2 = hup F1 f 6 (0 : Int32) → (∀ F3 : HF, F3 = hup F2 f 7 (5 : Int32) → (∀ F4 : HF, F4 = hup F3 f 8 (12 : Int32) → (∀ F5 : HF, F5 = hup F4 f 9 (1 : Int32) → (K F5)))))
set_option maxRecDepth 100000 in
set_option maxHeartbeats 4000000 in
theorem c_X1_clear {l : Launch} {D : va_G} {dA : Nat → ClassId} {ad : Nat → Nat} {R : List Nat} {F : HF} {f : Nat} {K : HF → Prop} (hT : Fl R f) (h : wp_X1_clear K F f) : MV l yX1_clear cX1_clear 1 rm_X1_clear D dA ad R F [.ref (ad f)] K := by
  refine MV.of (own := RX1) (by decide) rfl (Nat.le_of_ble_eq_true rfl) ?_
  intro p e s m args below meth c A hA X hr
  unfold wp_X1_clear at h
  show J p l e rm_X1_clear s m args below meth c 1 D dA ad R A (QV D dA ad R A below args s K) F 0 [(0, .ref (ad f))] []
  refine r_aload_n (pc := 0) X 0 dX1_clear_0 rfl rfl ?_
  refine r_iconst (pc := 1) (v := (0 : Int32)) X dX1_clear_1 (by decide) ?_
  refine fp_X1_30 (pc := 2) X hT.1 dX1_clear_2 (fun F1 e1 => ?_)
  replace h := h F1 e1
  refine r_aload_n (pc := 5) X 0 dX1_clear_5 rfl rfl ?_
  refine r_iconst (pc := 6) (v := (0 : Int32)) X dX1_clear_6 (by decide) ?_
  refine fp_X1_34 (pc := 7) X hT.1 dX1_clear_7 (fun F2 e1 => ?_)
  replace h := h F2 e1
  refine r_aload_n (pc := 10) X 0 dX1_clear_10 rfl rfl ?_
  refine r_iconst (pc := 11) (v := (5 : Int32)) X dX1_clear_11 (by decide) ?_
  refine fp_X1_37 (pc := 12) X hT.1 dX1_clear_12 (fun F3 e1 => ?_)
  replace h := h F3 e1
  refine r_aload_n (pc := 15) X 0 dX1_clear_15 rfl rfl ?_
  refine r_bipush (pc := 16) (v := (12 : Int32)) X dX1_clear_16 (by decide) ?_
  refine fp_X1_40 (pc := 18) X hT.1 dX1_clear_18 (fun F4 e1 => ?_)
  replace h := h F4 e1
  refine r_aload_n (pc := 21) X 0 dX1_clear_21 rfl rfl ?_
  refine r_iconst (pc := 22) (v := (1 : Int32)) X dX1_clear_22 (by decide) ?_
  refine fp_X1_43 (pc := 23) X hT.1 dX1_clear_23 (fun F5 e1 => ?_)
  replace h := h F5 e1
  exact r_vret (pc := 26) X hr dX1_clear_26 h
theorem dX1_copyFrom_0 : decode cX1_copyFrom 0 = .ok (.aload_n 1, 1) := by decide +kernel
theorem dX1_copyFrom_1 : decode cX1_copyFrom 1 = .ok (.getfield 9, 3) := by decide +kernel
theorem dX1_copyFrom_4 : decode cX1_copyFrom 4 = .ok (.iconst 0, 1) := by decide +kernel
theorem dX1_copyFrom_5 : decode cX1_copyFrom 5 = .ok (.aload_n 0, 1) := by decide +kernel
theorem dX1_copyFrom_6 : decode cX1_copyFrom 6 = .ok (.getfield 9, 3) := by decide +kernel
theorem dX1_copyFrom_9 : decode cX1_copyFrom 9 = .ok (.iconst 0, 1) := by decide +kernel
theorem dX1_copyFrom_10 : decode cX1_copyFrom 10 = .ok (.bipush 8, 2) := by decide +kernel
theorem dX1_copyFrom_12 : decode cX1_copyFrom 12 = .ok (.invokestatic 46, 3) := by decide +kernel
theorem dX1_copyFrom_15 : decode cX1_copyFrom 15 = .ok (.aload_n 1, 1) := by decide +kernel
theorem dX1_copyFrom_16 : decode cX1_copyFrom 16 = .ok (.getfield 15, 3) := by decide +kernel
theorem dX1_copyFrom_19 : decode cX1_copyFrom 19 = .ok (.iconst 0, 1) := by decide +kernel
theorem dX1_copyFrom_20 : decode cX1_copyFrom 20 = .ok (.aload_n 0, 1) := by decide +kernel
theorem dX1_copyFrom_21 : decode cX1_copyFrom 21 = .ok (.getfield 15, 3) := by decide +kernel
theorem dX1_copyFrom_24 : decode cX1_copyFrom 24 = .ok (.iconst 0, 1) := by decide +kernel
theorem dX1_copyFrom_25 : decode cX1_copyFrom 25 = .ok (.bipush 8, 2) := by decide +kernel
theorem dX1_copyFrom_27 : decode cX1_copyFrom 27 = .ok (.invokestatic 46, 3) := by decide +kernel
theorem dX1_copyFrom_30 : decode cX1_copyFrom 30 = .ok (.aload_n 1, 1) := by decide +kernel
theorem dX1_copyFrom_31 : decode cX1_copyFrom 31 = .ok (.getfield 18, 3) := by decide +kernel
theorem dX1_copyFrom_34 : decode cX1_copyFrom 34 = .ok (.iconst 0, 1) := by decide +kernel
theorem dX1_copyFrom_35 : decode cX1_copyFrom 35 = .ok (.aload_n 0, 1) := by decide +kernel
theorem dX1_copyFrom_36 : decode cX1_copyFrom 36 = .ok (.getfield 18, 3) := by decide +kernel
theorem dX1_copyFrom_39 : decode cX1_copyFrom 39 = .ok (.iconst 0, 1) := by decide +kernel
theorem dX1_copyFrom_40 : decode cX1_copyFrom 40 = .ok (.bipush 8, 2) := by decide +kernel
theorem dX1_copyFrom_42 : decode cX1_copyFrom 42 = .ok (.invokestatic 46, 3) := by decide +kernel
theorem dX1_copyFrom_45 : decode cX1_copyFrom 45 = .ok (.aload_n 1, 1) := by decide +kernel
theorem dX1_copyFrom_46 : decode cX1_copyFrom 46 = .ok (.getfield 21, 3) := by decide +kernel
theorem dX1_copyFrom_49 : decode cX1_copyFrom 49 = .ok (.iconst 0, 1) := by decide +kernel
theorem dX1_copyFrom_50 : decode cX1_copyFrom 50 = .ok (.aload_n 0, 1) := by decide +kernel
theorem dX1_copyFrom_51 : decode cX1_copyFrom 51 = .ok (.getfield 21, 3) := by decide +kernel
theorem dX1_copyFrom_54 : decode cX1_copyFrom 54 = .ok (.iconst 0, 1) := by decide +kernel
theorem dX1_copyFrom_55 : decode cX1_copyFrom 55 = .ok (.bipush 8, 2) := by decide +kernel
theorem dX1_copyFrom_57 : decode cX1_copyFrom 57 = .ok (.invokestatic 46, 3) := by decide +kernel
theorem dX1_copyFrom_60 : decode cX1_copyFrom 60 = .ok (.aload_n 1, 1) := by decide +kernel
theorem dX1_copyFrom_61 : decode cX1_copyFrom 61 = .ok (.getfield 24, 3) := by decide +kernel
theorem dX1_copyFrom_64 : decode cX1_copyFrom 64 = .ok (.iconst 0, 1) := by decide +kernel
theorem dX1_copyFrom_65 : decode cX1_copyFrom 65 = .ok (.aload_n 0, 1) := by decide +kernel
theorem dX1_copyFrom_66 : decode cX1_copyFrom 66 = .ok (.getfield 24, 3) := by decide +kernel
theorem dX1_copyFrom_69 : decode cX1_copyFrom 69 = .ok (.iconst 0, 1) := by decide +kernel
theorem dX1_copyFrom_70 : decode cX1_copyFrom 70 = .ok (.bipush 8, 2) := by decide +kernel
theorem dX1_copyFrom_72 : decode cX1_copyFrom 72 = .ok (.invokestatic 46, 3) := by decide +kernel
theorem dX1_copyFrom_75 : decode cX1_copyFrom 75 = .ok (.aload_n 0, 1) := by decide +kernel
theorem dX1_copyFrom_76 : decode cX1_copyFrom 76 = .ok (.aload_n 1, 1) := by decide +kernel
theorem dX1_copyFrom_77 : decode cX1_copyFrom 77 = .ok (.getfield 30, 3) := by decide +kernel
theorem dX1_copyFrom_80 : decode cX1_copyFrom 80 = .ok (.putfield 30, 3) := by decide +kernel
theorem dX1_copyFrom_83 : decode cX1_copyFrom 83 = .ok (.aload_n 0, 1) := by decide +kernel
theorem dX1_copyFrom_84 : decode cX1_copyFrom 84 = .ok (.aload_n 1, 1) := by decide +kernel
theorem dX1_copyFrom_85 : decode cX1_copyFrom 85 = .ok (.getfield 34, 3) := by decide +kernel
theorem dX1_copyFrom_88 : decode cX1_copyFrom 88 = .ok (.putfield 34, 3) := by decide +kernel
theorem dX1_copyFrom_91 : decode cX1_copyFrom 91 = .ok (.aload_n 0, 1) := by decide +kernel
theorem dX1_copyFrom_92 : decode cX1_copyFrom 92 = .ok (.aload_n 1, 1) := by decide +kernel
theorem dX1_copyFrom_93 : decode cX1_copyFrom 93 = .ok (.getfield 37, 3) := by decide +kernel
theorem dX1_copyFrom_96 : decode cX1_copyFrom 96 = .ok (.putfield 37, 3) := by decide +kernel
theorem dX1_copyFrom_99 : decode cX1_copyFrom 99 = .ok (.aload_n 0, 1) := by decide +kernel
theorem dX1_copyFrom_100 : decode cX1_copyFrom 100 = .ok (.aload_n 1, 1) := by decide +kernel
theorem dX1_copyFrom_101 : decode cX1_copyFrom 101 = .ok (.getfield 40, 3) := by decide +kernel
theorem dX1_copyFrom_104 : decode cX1_copyFrom 104 = .ok (.putfield 40, 3) := by decide +kernel
theorem dX1_copyFrom_107 : decode cX1_copyFrom 107 = .ok (.aload_n 0, 1) := by decide +kernel
theorem dX1_copyFrom_108 : decode cX1_copyFrom 108 = .ok (.aload_n 1, 1) := by decide +kernel
theorem dX1_copyFrom_109 : decode cX1_copyFrom 109 = .ok (.getfield 43, 3) := by decide +kernel
theorem dX1_copyFrom_112 : decode cX1_copyFrom 112 = .ok (.putfield 43, 3) := by decide +kernel
theorem dX1_copyFrom_115 : decode cX1_copyFrom 115 = .ok (.return_, 1) := by decide +kernel
theorem hd_X1_copyFrom : yX1_copyFrom.cls = RX1 ∧ yX1_copyFrom.cls ≠ "java/lang/invoke/MethodHandle" ∧ yX1_copyFrom.cls ≠ "java/lang/invoke/VarHandle" ∧ (parseMethodDescriptor yX1_copyFrom.desc).map (fun d => d.parameters.length) = some 1 := by decide +kernel
abbrev rm_X1_copyFrom : Room := { frames := 1, cells := 0, slots := 0, locals := 48 }
def wp_X1_copyFrom (K : HF → Prop) (F : HF) (f : Nat) (r1 : Nat) : Prop := ∀ F1 : HF, F1 = hst F (f + 1) (va_cpy (F (r1 + 1)) (F (f + 1)) 0 0 8) → (∀ F2 : HF, F2 = hst F1 (f + 2) (va_cpy (F1 (r1 + 2)) (F1 (f + 2)) 0 0 8) → (∀ F3 : HF, F3 = hst F2 (f + 3) (va_cpy (F2 (r1 + 3)) (F2 (f + 3)) 0 0 8) → (∀ F4 : HF, F4 = hst F3 (f + 4) (va_cpy (F3 (r1 + 4)) (F3 (f + 4)) 0 0 8) → (∀ F5 : HF, F5 = hst F4 (f + 5) (va_cpy (F4 (r1 + 5)) (F4 (f + 5)) 0 0 8) → (∀ F6 : HF, F6 = hup F5 f 5 (F5 r1 5) → (∀ F7 : HF, F7 = hup F6 f 6 (F6 r1 6) → (∀ F8 : HF, F8 = hup F7 f 7 (F7 r1 7) → (∀ F9 : HF, F9 = hup F8 f 8 (F8 r1 8) → (∀ F10 : HF, F10 = hup F9 f 9 (F9 r1 9) → (K F10))))))))))
set_option maxRecDepth 100000 in
set_option maxHeartbeats 4000000 in
theorem c_X1_copyFrom {l : Launch} {D : va_G} {dA : Nat → ClassId} {ad : Nat → Nat} {R : List Nat} {F : HF} {f : Nat} {r1 : Nat} {K : HF → Prop} (hT : Fl R f) (hr1 : Fl R r1) (h : wp_X1_copyFrom K F f r1) : MV l yX1_copyFrom cX1_copyFrom 2 rm_X1_copyFrom D dA ad R F [.ref (ad f), .ref (ad r1)] K := by
  refine MV.of (own := RX1) (by decide) rfl (Nat.le_of_ble_eq_true rfl) ?_
  intro p e s m args below meth c A hA X hr
  unfold wp_X1_copyFrom at h
  show J p l e rm_X1_copyFrom s m args below meth c 2 D dA ad R A (QV D dA ad R A below args s K) F 0 [(0, .ref (ad f)), (1, .ref (ad r1))] []
  refine r_aload_n (pc := 0) X 1 dX1_copyFrom_0 rfl rfl ?_
  refine fg_X1_9 (pc := 1) X hr1.1 dX1_copyFrom_1 ?_
  refine r_iconst (pc := 4) (v := (0 : Int32)) X dX1_copyFrom_4 (by decide) ?_
  refine r_aload_n (pc := 5) X 0 dX1_copyFrom_5 rfl rfl ?_
  refine fg_X1_9 (pc := 6) X hT.1 dX1_copyFrom_6 ?_
  refine r_iconst (pc := 9) (v := (0 : Int32)) X dX1_copyFrom_9 (by decide) ?_
  refine r_bipush (pc := 10) (v := (8 : Int32)) X dX1_copyFrom_10 (by decide) ?_
  refine r_copy (pc := 12) X w_392 w_394 w_393 w_65 hr1.2.1 hT.2.1 (by decide) (by decide) (by decide) (Nat.le_of_ble_eq_true rfl) (Nat.le_of_ble_eq_true rfl) dX1_copyFrom_12 (fun F1 e1 => ?_)
  replace h := h F1 e1
  refine r_aload_n (pc := 15) X 1 dX1_copyFrom_15 rfl rfl ?_
  refine fg_X1_15 (pc := 16) X hr1.1 dX1_copyFrom_16 ?_
  refine r_iconst (pc := 19) (v := (0 : Int32)) X dX1_copyFrom_19 (by decide) ?_
  refine r_aload_n (pc := 20) X 0 dX1_copyFrom_20 rfl rfl ?_
  refine fg_X1_15 (pc := 21) X hT.1 dX1_copyFrom_21 ?_
  refine r_iconst (pc := 24) (v := (0 : Int32)) X dX1_copyFrom_24 (by decide) ?_
  refine r_bipush (pc := 25) (v := (8 : Int32)) X dX1_copyFrom_25 (by decide) ?_
  refine r_copy (pc := 27) X w_392 w_394 w_393 w_65 hr1.2.2.1 hT.2.2.1 (by decide) (by decide) (by decide) (Nat.le_of_ble_eq_true rfl) (Nat.le_of_ble_eq_true rfl) dX1_copyFrom_27 (fun F2 e1 => ?_)
  replace h := h F2 e1
  refine r_aload_n (pc := 30) X 1 dX1_copyFrom_30 rfl rfl ?_
  refine fg_X1_18 (pc := 31) X hr1.1 dX1_copyFrom_31 ?_
  refine r_iconst (pc := 34) (v := (0 : Int32)) X dX1_copyFrom_34 (by decide) ?_
  refine r_aload_n (pc := 35) X 0 dX1_copyFrom_35 rfl rfl ?_
  refine fg_X1_18 (pc := 36) X hT.1 dX1_copyFrom_36 ?_
  refine r_iconst (pc := 39) (v := (0 : Int32)) X dX1_copyFrom_39 (by decide) ?_
  refine r_bipush (pc := 40) (v := (8 : Int32)) X dX1_copyFrom_40 (by decide) ?_
  refine r_copy (pc := 42) X w_392 w_394 w_393 w_65 hr1.2.2.2.1 hT.2.2.2.1 (by decide) (by decide) (by decide) (Nat.le_of_ble_eq_true rfl) (Nat.le_of_ble_eq_true rfl) dX1_copyFrom_42 (fun F3 e1 => ?_)
  replace h := h F3 e1
  refine r_aload_n (pc := 45) X 1 dX1_copyFrom_45 rfl rfl ?_
  refine fg_X1_21 (pc := 46) X hr1.1 dX1_copyFrom_46 ?_
  refine r_iconst (pc := 49) (v := (0 : Int32)) X dX1_copyFrom_49 (by decide) ?_
  refine r_aload_n (pc := 50) X 0 dX1_copyFrom_50 rfl rfl ?_
  refine fg_X1_21 (pc := 51) X hT.1 dX1_copyFrom_51 ?_
  refine r_iconst (pc := 54) (v := (0 : Int32)) X dX1_copyFrom_54 (by decide) ?_
  refine r_bipush (pc := 55) (v := (8 : Int32)) X dX1_copyFrom_55 (by decide) ?_
  refine r_copy (pc := 57) X w_392 w_394 w_393 w_65 hr1.2.2.2.2.1 hT.2.2.2.2.1 (by decide) (by decide) (by decide) (Nat.le_of_ble_eq_true rfl) (Nat.le_of_ble_eq_true rfl) dX1_copyFrom_57 (fun F4 e1 => ?_)
  replace h := h F4 e1
  refine r_aload_n (pc := 60) X 1 dX1_copyFrom_60 rfl rfl ?_
  refine fg_X1_24 (pc := 61) X hr1.1 dX1_copyFrom_61 ?_
  refine r_iconst (pc := 64) (v := (0 : Int32)) X dX1_copyFrom_64 (by decide) ?_
  refine r_aload_n (pc := 65) X 0 dX1_copyFrom_65 rfl rfl ?_
  refine fg_X1_24 (pc := 66) X hT.1 dX1_copyFrom_66 ?_
  refine r_iconst (pc := 69) (v := (0 : Int32)) X dX1_copyFrom_69 (by decide) ?_
  refine r_bipush (pc := 70) (v := (8 : Int32)) X dX1_copyFrom_70 (by decide) ?_
  refine r_copy (pc := 72) X w_392 w_394 w_393 w_65 hr1.2.2.2.2.2 hT.2.2.2.2.2 (by decide) (by decide) (by decide) (Nat.le_of_ble_eq_true rfl) (Nat.le_of_ble_eq_true rfl) dX1_copyFrom_72 (fun F5 e1 => ?_)
  replace h := h F5 e1
  refine r_aload_n (pc := 75) X 0 dX1_copyFrom_75 rfl rfl ?_
  refine r_aload_n (pc := 76) X 1 dX1_copyFrom_76 rfl rfl ?_
  refine fg_X1_30 (pc := 77) X hr1.1 dX1_copyFrom_77 ?_
  refine fp_X1_30 (pc := 80) X hT.1 dX1_copyFrom_80 (fun F6 e1 => ?_)
  replace h := h F6 e1
  refine r_aload_n (pc := 83) X 0 dX1_copyFrom_83 rfl rfl ?_
  refine r_aload_n (pc := 84) X 1 dX1_copyFrom_84 rfl rfl ?_
  refine fg_X1_34 (pc := 85) X hr1.1 dX1_copyFrom_85 ?_
  refine fp_X1_34 (pc := 88) X hT.1 dX1_copyFrom_88 (fun F7 e1 => ?_)
  replace h := h F7 e1
  refine r_aload_n (pc := 91) X 0 dX1_copyFrom_91 rfl rfl ?_
  refine r_aload_n (pc := 92) X 1 dX1_copyFrom_92 rfl rfl ?_
  refine fg_X1_37 (pc := 93) X hr1.1 dX1_copyFrom_93 ?_
  refine fp_X1_37 (pc := 96) X hT.1 dX1_copyFrom_96 (fun F8 e1 => ?_)
  replace h := h F8 e1
  refine r_aload_n (pc := 99) X 0 dX1_copyFrom_99 rfl rfl ?_
  refine r_aload_n (pc := 100) X 1 dX1_copyFrom_100 rfl rfl ?_
  refine fg_X1_40 (pc := 101) X hr1.1 dX1_copyFrom_101 ?_
  refine fp_X1_40 (pc := 104) X hT.1 dX1_copyFrom_104 (fun F9 e1 => ?_)
  replace h := h F9 e1
  refine r_aload_n (pc := 107) X 0 dX1_copyFrom_107 rfl rfl ?_
  refine r_aload_n (pc := 108) X 1 dX1_copyFrom_108 rfl rfl ?_
  refine fg_X1_43 (pc := 109) X hr1.1 dX1_copyFrom_109 ?_
  refine fp_X1_43 (pc := 112) X hT.1 dX1_copyFrom_112 (fun F10 e1 => ?_)
  replace h := h F10 e1
  exact r_vret (pc := 115) X hr dX1_copyFrom_115 h
theorem dX1_takeBird_0 : decode cX1_takeBird 0 = .ok (.aload_n 0, 1) := by decide +kernel
theorem dX1_takeBird_1 : decode cX1_takeBird 1 = .ok (.getfield 30, 3) := by decide +kernel
theorem dX1_takeBird_4 : decode cX1_takeBird 4 = .ok (.bipush 8, 2) := by decide +kernel
theorem dX1_takeBird_6 : decode cX1_takeBird 6 = .ok (.if_icmp .ge 45, 3) := by decide +kernel
theorem dX1_takeBird_9 : decode cX1_takeBird 9 = .ok (.iload_n 1, 1) := by decide +kernel
theorem dX1_takeBird_10 : decode cX1_takeBird 10 = .ok (.iconst 1, 1) := by decide +kernel
theorem dX1_takeBird_11 : decode cX1_takeBird 11 = .ok (.if_icmp .lt 40, 3) := by decide +kernel
theorem dX1_takeBird_14 : decode cX1_takeBird 14 = .ok (.iload_n 1, 1) := by decide +kernel
theorem dX1_takeBird_15 : decode cX1_takeBird 15 = .ok (.bipush 60, 2) := by decide +kernel
theorem dX1_takeBird_17 : decode cX1_takeBird 17 = .ok (.if_icmp .gt 34, 3) := by decide +kernel
theorem dX1_takeBird_20 : decode cX1_takeBird 20 = .ok (.iload_n 2, 1) := by decide +kernel
theorem dX1_takeBird_21 : decode cX1_takeBird 21 = .ok (.iconst 1, 1) := by decide +kernel
theorem dX1_takeBird_22 : decode cX1_takeBird 22 = .ok (.if_icmp .lt 29, 3) := by decide +kernel
theorem dX1_takeBird_25 : decode cX1_takeBird 25 = .ok (.iload_n 2, 1) := by decide +kernel
theorem dX1_takeBird_26 : decode cX1_takeBird 26 = .ok (.iconst 3, 1) := by decide +kernel
theorem dX1_takeBird_27 : decode cX1_takeBird 27 = .ok (.if_icmp .gt 24, 3) := by decide +kernel
theorem dX1_takeBird_30 : decode cX1_takeBird 30 = .ok (.iload_n 3, 1) := by decide +kernel
theorem dX1_takeBird_31 : decode cX1_takeBird 31 = .ok (.ifCond .lt 20, 3) := by decide +kernel
theorem dX1_takeBird_34 : decode cX1_takeBird 34 = .ok (.iload_n 3, 1) := by decide +kernel
theorem dX1_takeBird_35 : decode cX1_takeBird 35 = .ok (.iconst 4, 1) := by decide +kernel
theorem dX1_takeBird_36 : decode cX1_takeBird 36 = .ok (.if_icmp .gt 15, 3) := by decide +kernel
theorem dX1_takeBird_39 : decode cX1_takeBird 39 = .ok (.iload 4, 2) := by decide +kernel
theorem dX1_takeBird_41 : decode cX1_takeBird 41 = .ok (.ifCond .lt 10, 3) := by decide +kernel
theorem dX1_takeBird_44 : decode cX1_takeBird 44 = .ok (.iload 4, 2) := by decide +kernel
theorem dX1_takeBird_46 : decode cX1_takeBird 46 = .ok (.bipush 40, 2) := by decide +kernel
theorem dX1_takeBird_48 : decode cX1_takeBird 48 = .ok (.if_icmp .le 5, 3) := by decide +kernel
theorem dX1_takeBird_51 : decode cX1_takeBird 51 = .ok (.iconst 0, 1) := by decide +kernel
theorem dX1_takeBird_52 : decode cX1_takeBird 52 = .ok (.ireturn, 1) := by decide +kernel
theorem dX1_takeBird_53 : decode cX1_takeBird 53 = .ok (.aload_n 0, 1) := by decide +kernel
theorem dX1_takeBird_54 : decode cX1_takeBird 54 = .ok (.getfield 9, 3) := by decide +kernel
theorem dX1_takeBird_57 : decode cX1_takeBird 57 = .ok (.aload_n 0, 1) := by decide +kernel
theorem dX1_takeBird_58 : decode cX1_takeBird 58 = .ok (.getfield 30, 3) := by decide +kernel
theorem dX1_takeBird_61 : decode cX1_takeBird 61 = .ok (.iload_n 1, 1) := by decide +kernel
theorem dX1_takeBird_62 : decode cX1_takeBird 62 = .ok (.iastore, 1) := by decide +kernel
theorem dX1_takeBird_63 : decode cX1_takeBird 63 = .ok (.aload_n 0, 1) := by decide +kernel
theorem dX1_takeBird_64 : decode cX1_takeBird 64 = .ok (.getfield 15, 3) := by decide +kernel
theorem dX1_takeBird_67 : decode cX1_takeBird 67 = .ok (.aload_n 0, 1) := by decide +kernel
theorem dX1_takeBird_68 : decode cX1_takeBird 68 = .ok (.getfield 30, 3) := by decide +kernel
theorem dX1_takeBird_71 : decode cX1_takeBird 71 = .ok (.iload_n 2, 1) := by decide +kernel
theorem dX1_takeBird_72 : decode cX1_takeBird 72 = .ok (.iastore, 1) := by decide +kernel
theorem dX1_takeBird_73 : decode cX1_takeBird 73 = .ok (.aload_n 0, 1) := by decide +kernel
theorem dX1_takeBird_74 : decode cX1_takeBird 74 = .ok (.getfield 18, 3) := by decide +kernel
theorem dX1_takeBird_77 : decode cX1_takeBird 77 = .ok (.aload_n 0, 1) := by decide +kernel
theorem dX1_takeBird_78 : decode cX1_takeBird 78 = .ok (.getfield 30, 3) := by decide +kernel
theorem dX1_takeBird_81 : decode cX1_takeBird 81 = .ok (.iload_n 3, 1) := by decide +kernel
theorem dX1_takeBird_82 : decode cX1_takeBird 82 = .ok (.iastore, 1) := by decide +kernel
theorem dX1_takeBird_83 : decode cX1_takeBird 83 = .ok (.aload_n 0, 1) := by decide +kernel
theorem dX1_takeBird_84 : decode cX1_takeBird 84 = .ok (.getfield 21, 3) := by decide +kernel
theorem dX1_takeBird_87 : decode cX1_takeBird 87 = .ok (.aload_n 0, 1) := by decide +kernel
theorem dX1_takeBird_88 : decode cX1_takeBird 88 = .ok (.getfield 30, 3) := by decide +kernel
theorem dX1_takeBird_91 : decode cX1_takeBird 91 = .ok (.iload 4, 2) := by decide +kernel
theorem dX1_takeBird_93 : decode cX1_takeBird 93 = .ok (.iastore, 1) := by decide +kernel
theorem dX1_takeBird_94 : decode cX1_takeBird 94 = .ok (.aload_n 0, 1) := by decide +kernel
theorem dX1_takeBird_95 : decode cX1_takeBird 95 = .ok (.dup, 1) := by decide +kernel
theorem dX1_takeBird_96 : decode cX1_takeBird 96 = .ok (.getfield 30, 3) := by decide +kernel
theorem dX1_takeBird_99 : decode cX1_takeBird 99 = .ok (.iconst 1, 1) := by decide +kernel
theorem dX1_takeBird_100 : decode cX1_takeBird 100 = .ok (.iadd, 1) := by decide +kernel
theorem dX1_takeBird_101 : decode cX1_takeBird 101 = .ok (.putfield 30, 3) := by decide +kernel
theorem dX1_takeBird_104 : decode cX1_takeBird 104 = .ok (.iconst 1, 1) := by decide +kernel
theorem dX1_takeBird_105 : decode cX1_takeBird 105 = .ok (.ireturn, 1) := by decide +kernel
theorem hd_X1_takeBird : yX1_takeBird.cls = RX1 ∧ yX1_takeBird.cls ≠ "java/lang/invoke/MethodHandle" ∧ yX1_takeBird.cls ≠ "java/lang/invoke/VarHandle" ∧ (parseMethodDescriptor yX1_takeBird.desc).map (fun d => d.parameters.length) = some 4 := by decide +kernel
abbrev rm_X1_takeBird : Room := { frames := 0, cells := 0, slots := 0, locals := 0 }
def wp_X1_takeBird (K : Int32 → HF → Prop) (F : HF) (f : Nat) (a1 : Int32) (a2 : Int32) (a3 : Int32) (a4 : Int32) : Prop := (((8 : Int32) ≤ (F f 5)) → (K (0 : Int32) F)) ∧ ((¬ (8 : Int32) ≤ (F f 5)) → (((a1 < (1 : Int32)) → (K (0 : Int32) F)) ∧ ((¬ a1 < (1 : Int32)) → ((((60 : Int32) < a1) → (K (0 : Int32) F)) ∧ ((¬ (60 : Int32) < a1) → (((a2 < (1 : Int32)) → (K (0 : Int32) F)) ∧ ((¬ a2 < (1 : Int32)) → ((((3 : Int32) < a2) → (K (0 : Int32) F)) ∧ ((¬ (3 : Int32) < a2) → (((a3 < 0) → (K (0 : Int32) F)) ∧ ((¬ a3 < 0) → ((((4 : Int32) < a3) → (K (0 : Int32) F)) ∧ ((¬ (4 : Int32) < a3) → (((a4 < 0) → (K (0 : Int32) F)) ∧ ((¬ a4 < 0) → (((a4 ≤ (40 : Int32)) → ((vp_in (F f 5) 8) ∧ (∀ F1 : HF, F1 = hup F (f + 1) (F f 5).toNatClampNeg a1 → ((vp_in (F1 f 5) 8) ∧ (∀ F2 : HF, F2 = hup F1 (f + 2) (F1 f 5).toNatClampNeg a2 → ((vp_in (F2 f 5) 8) ∧ (∀ F3 : HF, F3 = hup F2 (f + 3) (F2 f 5).toNatClampNeg a3 → ((vp_in (F3 f 5) 8) ∧ (∀ F4 : HF, F4 = hup F3 (f + 4) (F3 f 5).toNatClampNeg a4 → (∀ F5 : HF, F5 = hup F4 f 5 ((F4 f 5) + (1 : Int32)) → (K (1 : Int32) F5))))))))))) ∧ ((¬ a4 ≤ (40 : Int32)) → (K (0 : Int32) F))))))))))))))))))
set_option maxRecDepth 100000 in
set_option maxHeartbeats 4000000 in
theorem c_X1_takeBird {l : Launch} {D : va_G} {dA : Nat → ClassId} {ad : Nat → Nat} {R : List Nat} {F : HF} {f : Nat} {a1 : Int32} {a2 : Int32} {a3 : Int32} {a4 : Int32} {K : Int32 → HF → Prop} (hT : Fl R f) (h : wp_X1_takeBird K F f a1 a2 a3 a4) : MI l yX1_takeBird cX1_takeBird 5 .boolean rm_X1_takeBird D dA ad R F [.ref (ad f), .int a1, .int a2, .int a3, .int a4] K := by
  refine MI.of (own := RX1) (by decide) rfl (Nat.le_of_ble_eq_true rfl) ?_
  intro p e s m args below meth c A hA X hr
  unfold wp_X1_takeBird at h
  show J p l e rm_X1_takeBird s m args below meth c 5 D dA ad R A (QI D dA ad R A below args s K) F 0 [(0, .ref (ad f)), (1, .int a1), (2, .int a2), (3, .int a3), (4, .int a4)] []
  refine r_aload_n (pc := 0) X 0 dX1_takeBird_0 rfl rfl ?_
  refine fg_X1_30 (pc := 1) X hT.1 dX1_takeBird_1 ?_
  refine r_bipush (pc := 4) (v := (8 : Int32)) X dX1_takeBird_4 (by decide) ?_
  refine r_icmp_ge (pc := 6) (tgt := 51) X dX1_takeBird_6 (by decide) (fun hc => ?_) (fun hc => ?_)
  · replace h := h.1 hc
    refine r_iconst (pc := 51) (v := (0 : Int32)) X dX1_takeBird_51 (by decide) ?_
    exact r_zret (pc := 52) X hr dX1_takeBird_52 nb0 h
  · replace h := h.2 hc
    refine r_iload_n (pc := 9) X 1 dX1_takeBird_9 rfl rfl ?_
    refine r_iconst (pc := 10) (v := (1 : Int32)) X dX1_takeBird_10 (by decide) ?_
    refine r_icmp_lt (pc := 11) (tgt := 51) X dX1_takeBird_11 (by decide) (fun hc => ?_) (fun hc => ?_)
    · replace h := h.1 hc
      refine r_iconst (pc := 51) (v := (0 : Int32)) X dX1_takeBird_51 (by decide) ?_
      exact r_zret (pc := 52) X hr dX1_takeBird_52 nb0 h
    · replace h := h.2 hc
      refine r_iload_n (pc := 14) X 1 dX1_takeBird_14 rfl rfl ?_
      refine r_bipush (pc := 15) (v := (60 : Int32)) X dX1_takeBird_15 (by decide) ?_
      refine r_icmp_gt (pc := 17) (tgt := 51) X dX1_takeBird_17 (by decide) (fun hc => ?_) (fun hc => ?_)
      · replace h := h.1 hc
        refine r_iconst (pc := 51) (v := (0 : Int32)) X dX1_takeBird_51 (by decide) ?_
        exact r_zret (pc := 52) X hr dX1_takeBird_52 nb0 h
      · replace h := h.2 hc
        refine r_iload_n (pc := 20) X 2 dX1_takeBird_20 rfl rfl ?_
        refine r_iconst (pc := 21) (v := (1 : Int32)) X dX1_takeBird_21 (by decide) ?_
        refine r_icmp_lt (pc := 22) (tgt := 51) X dX1_takeBird_22 (by decide) (fun hc => ?_) (fun hc => ?_)
        · replace h := h.1 hc
          refine r_iconst (pc := 51) (v := (0 : Int32)) X dX1_takeBird_51 (by decide) ?_
          exact r_zret (pc := 52) X hr dX1_takeBird_52 nb0 h
        · replace h := h.2 hc
          refine r_iload_n (pc := 25) X 2 dX1_takeBird_25 rfl rfl ?_
          refine r_iconst (pc := 26) (v := (3 : Int32)) X dX1_takeBird_26 (by decide) ?_
          refine r_icmp_gt (pc := 27) (tgt := 51) X dX1_takeBird_27 (by decide) (fun hc => ?_) (fun hc => ?_)
          · replace h := h.1 hc
            refine r_iconst (pc := 51) (v := (0 : Int32)) X dX1_takeBird_51 (by decide) ?_
            exact r_zret (pc := 52) X hr dX1_takeBird_52 nb0 h
          · replace h := h.2 hc
            refine r_iload_n (pc := 30) X 3 dX1_takeBird_30 rfl rfl ?_
            refine r_if_lt (pc := 31) (tgt := 51) X dX1_takeBird_31 (by decide) (fun hc => ?_) (fun hc => ?_)
            · replace h := h.1 hc
              refine r_iconst (pc := 51) (v := (0 : Int32)) X dX1_takeBird_51 (by decide) ?_
              exact r_zret (pc := 52) X hr dX1_takeBird_52 nb0 h
            · replace h := h.2 hc
              refine r_iload_n (pc := 34) X 3 dX1_takeBird_34 rfl rfl ?_
              refine r_iconst (pc := 35) (v := (4 : Int32)) X dX1_takeBird_35 (by decide) ?_
              refine r_icmp_gt (pc := 36) (tgt := 51) X dX1_takeBird_36 (by decide) (fun hc => ?_) (fun hc => ?_)
              · replace h := h.1 hc
                refine r_iconst (pc := 51) (v := (0 : Int32)) X dX1_takeBird_51 (by decide) ?_
                exact r_zret (pc := 52) X hr dX1_takeBird_52 nb0 h
              · replace h := h.2 hc
                refine r_iload (pc := 39) X 4 dX1_takeBird_39 rfl ?_
                refine r_if_lt (pc := 41) (tgt := 51) X dX1_takeBird_41 (by decide) (fun hc => ?_) (fun hc => ?_)
                · replace h := h.1 hc
                  refine r_iconst (pc := 51) (v := (0 : Int32)) X dX1_takeBird_51 (by decide) ?_
                  exact r_zret (pc := 52) X hr dX1_takeBird_52 nb0 h
                · replace h := h.2 hc
                  refine r_iload (pc := 44) X 4 dX1_takeBird_44 rfl ?_
                  refine r_bipush (pc := 46) (v := (40 : Int32)) X dX1_takeBird_46 (by decide) ?_
                  refine r_icmp_le (pc := 48) (tgt := 53) X dX1_takeBird_48 (by decide) (fun hc => ?_) (fun hc => ?_)
                  · replace h := h.1 hc
                    refine r_aload_n (pc := 53) X 0 dX1_takeBird_53 rfl rfl ?_
                    refine fg_X1_9 (pc := 54) X hT.1 dX1_takeBird_54 ?_
                    refine r_aload_n (pc := 57) X 0 dX1_takeBird_57 rfl rfl ?_
                    refine fg_X1_30 (pc := 58) X hT.1 dX1_takeBird_58 ?_
                    refine r_iload_n (pc := 61) X 1 dX1_takeBird_61 rfl rfl ?_
                    refine r_iast (pc := 62) X hT.2.1 h.1 dX1_takeBird_62 (fun F1 e1 => ?_)
                    replace h := h.2 F1 e1
                    refine r_aload_n (pc := 63) X 0 dX1_takeBird_63 rfl rfl ?_
                    refine fg_X1_15 (pc := 64) X hT.1 dX1_takeBird_64 ?_
                    refine r_aload_n (pc := 67) X 0 dX1_takeBird_67 rfl rfl ?_
                    refine fg_X1_30 (pc := 68) X hT.1 dX1_takeBird_68 ?_
                    refine r_iload_n (pc := 71) X 2 dX1_takeBird_71 rfl rfl ?_
                    refine r_iast (pc := 72) X hT.2.2.1 h.1 dX1_takeBird_72 (fun F2 e1 => ?_)
                    replace h := h.2 F2 e1
                    refine r_aload_n (pc := 73) X 0 dX1_takeBird_73 rfl rfl ?_
                    refine fg_X1_18 (pc := 74) X hT.1 dX1_takeBird_74 ?_
                    refine r_aload_n (pc := 77) X 0 dX1_takeBird_77 rfl rfl ?_
                    refine fg_X1_30 (pc := 78) X hT.1 dX1_takeBird_78 ?_
                    refine r_iload_n (pc := 81) X 3 dX1_takeBird_81 rfl rfl ?_
                    refine r_iast (pc := 82) X hT.2.2.2.1 h.1 dX1_takeBird_82 (fun F3 e1 => ?_)
                    replace h := h.2 F3 e1
                    refine r_aload_n (pc := 83) X 0 dX1_takeBird_83 rfl rfl ?_
                    refine fg_X1_21 (pc := 84) X hT.1 dX1_takeBird_84 ?_
                    refine r_aload_n (pc := 87) X 0 dX1_takeBird_87 rfl rfl ?_
                    refine fg_X1_30 (pc := 88) X hT.1 dX1_takeBird_88 ?_
                    refine r_iload (pc := 91) X 4 dX1_takeBird_91 rfl ?_
                    refine r_iast (pc := 93) X hT.2.2.2.2.1 h.1 dX1_takeBird_93 (fun F4 e1 => ?_)
                    replace h := h.2 F4 e1
                    refine r_aload_n (pc := 94) X 0 dX1_takeBird_94 rfl rfl ?_
                    refine r_dup (pc := 95) X dX1_takeBird_95 rfl ?_
                    refine fg_X1_30 (pc := 96) X hT.1 dX1_takeBird_96 ?_
                    refine r_iconst (pc := 99) (v := (1 : Int32)) X dX1_takeBird_99 (by decide) ?_
                    refine r_iadd (pc := 100) X dX1_takeBird_100 ?_
                    refine fp_X1_30 (pc := 101) X hT.1 dX1_takeBird_101 (fun F5 e1 => ?_)
                    replace h := h F5 e1
                    refine r_iconst (pc := 104) (v := (1 : Int32)) X dX1_takeBird_104 (by decide) ?_
                    exact r_zret (pc := 105) X hr dX1_takeBird_105 nb1 h
                  · replace h := h.2 hc
                    refine r_iconst (pc := 51) (v := (0 : Int32)) X dX1_takeBird_51 (by decide) ?_
                    exact r_zret (pc := 52) X hr dX1_takeBird_52 nb0 h
theorem dX1_takeLoad_0 : decode cX1_takeLoad 0 = .ok (.iload_n 1, 1) := by decide +kernel
theorem dX1_takeLoad_1 : decode cX1_takeLoad 1 = .ok (.iconst 1, 1) := by decide +kernel
theorem dX1_takeLoad_2 : decode cX1_takeLoad 2 = .ok (.if_icmp .lt 19, 3) := by decide +kernel
theorem dX1_takeLoad_5 : decode cX1_takeLoad 5 = .ok (.iload_n 1, 1) := by decide +kernel
theorem dX1_takeLoad_6 : decode cX1_takeLoad 6 = .ok (.bipush 40, 2) := by decide +kernel
theorem dX1_takeLoad_8 : decode cX1_takeLoad 8 = .ok (.if_icmp .gt 13, 3) := by decide +kernel
theorem dX1_takeLoad_11 : decode cX1_takeLoad 11 = .ok (.iload_n 2, 1) := by decide +kernel
theorem dX1_takeLoad_12 : decode cX1_takeLoad 12 = .ok (.ifCond .lt 9, 3) := by decide +kernel
theorem dX1_takeLoad_15 : decode cX1_takeLoad 15 = .ok (.iload_n 2, 1) := by decide +kernel
theorem dX1_takeLoad_16 : decode cX1_takeLoad 16 = .ok (.bipush 9, 2) := by decide +kernel
theorem dX1_takeLoad_18 : decode cX1_takeLoad 18 = .ok (.if_icmp .le 5, 3) := by decide +kernel
theorem dX1_takeLoad_21 : decode cX1_takeLoad 21 = .ok (.iconst 0, 1) := by decide +kernel
theorem dX1_takeLoad_22 : decode cX1_takeLoad 22 = .ok (.ireturn, 1) := by decide +kernel
theorem dX1_takeLoad_23 : decode cX1_takeLoad 23 = .ok (.aload_n 0, 1) := by decide +kernel
theorem dX1_takeLoad_24 : decode cX1_takeLoad 24 = .ok (.iload_n 1, 1) := by decide +kernel
theorem dX1_takeLoad_25 : decode cX1_takeLoad 25 = .ok (.putfield 40, 3) := by decide +kernel
theorem dX1_takeLoad_28 : decode cX1_takeLoad 28 = .ok (.aload_n 0, 1) := by decide +kernel
theorem dX1_takeLoad_29 : decode cX1_takeLoad 29 = .ok (.iload_n 2, 1) := by decide +kernel
theorem dX1_takeLoad_30 : decode cX1_takeLoad 30 = .ok (.putfield 43, 3) := by decide +kernel
theorem dX1_takeLoad_33 : decode cX1_takeLoad 33 = .ok (.iconst 1, 1) := by decide +kernel
theorem dX1_takeLoad_34 : decode cX1_takeLoad 34 = .ok (.ireturn, 1) := by decide +kernel
theorem hd_X1_takeLoad : yX1_takeLoad.cls = RX1 ∧ yX1_takeLoad.cls ≠ "java/lang/invoke/MethodHandle" ∧ yX1_takeLoad.cls ≠ "java/lang/invoke/VarHandle" ∧ (parseMethodDescriptor yX1_takeLoad.desc).map (fun d => d.parameters.length) = some 2 := by decide +kernel
abbrev rm_X1_takeLoad : Room := { frames := 0, cells := 0, slots := 0, locals := 0 }
def wp_X1_takeLoad (K : Int32 → HF → Prop) (F : HF) (f : Nat) (a1 : Int32) (a2 : Int32) : Prop := ((a1 < (1 : Int32)) → (K (0 : Int32) F)) ∧ ((¬ a1 < (1 : Int32)) → ((((40 : Int32) < a1) → (K (0 : Int32) F)) ∧ ((¬ (40 : Int32) < a1) → (((a2 < 0) → (K (0 : Int32) F)) ∧ ((¬ a2 < 0) → (((a2 ≤ (9 : Int32)) → (∀ F1 : HF, F1 = hup F f 8 a1 → (∀ F2 : HF, F2 = hup F1 f 9 a2 → (K (1 : Int32) F2)))) ∧ ((¬ a2 ≤ (9 : Int32)) → (K (0 : Int32) F))))))))
set_option maxRecDepth 100000 in
set_option maxHeartbeats 4000000 in
theorem c_X1_takeLoad {l : Launch} {D : va_G} {dA : Nat → ClassId} {ad : Nat → Nat} {R : List Nat} {F : HF} {f : Nat} {a1 : Int32} {a2 : Int32} {K : Int32 → HF → Prop} (hT : Fl R f) (h : wp_X1_takeLoad K F f a1 a2) : MI l yX1_takeLoad cX1_takeLoad 3 .boolean rm_X1_takeLoad D dA ad R F [.ref (ad f), .int a1, .int a2] K := by
  refine MI.of (own := RX1) (by decide) rfl (Nat.le_of_ble_eq_true rfl) ?_
  intro p e s m args below meth c A hA X hr
  unfold wp_X1_takeLoad at h
  show J p l e rm_X1_takeLoad s m args below meth c 3 D dA ad R A (QI D dA ad R A below args s K) F 0 [(0, .ref (ad f)), (1, .int a1), (2, .int a2)] []
  refine r_iload_n (pc := 0) X 1 dX1_takeLoad_0 rfl rfl ?_
  refine r_iconst (pc := 1) (v := (1 : Int32)) X dX1_takeLoad_1 (by decide) ?_
  refine r_icmp_lt (pc := 2) (tgt := 21) X dX1_takeLoad_2 (by decide) (fun hc => ?_) (fun hc => ?_)
  · replace h := h.1 hc
    refine r_iconst (pc := 21) (v := (0 : Int32)) X dX1_takeLoad_21 (by decide) ?_
    exact r_zret (pc := 22) X hr dX1_takeLoad_22 nb0 h
  · replace h := h.2 hc
    refine r_iload_n (pc := 5) X 1 dX1_takeLoad_5 rfl rfl ?_
    refine r_bipush (pc := 6) (v := (40 : Int32)) X dX1_takeLoad_6 (by decide) ?_
    refine r_icmp_gt (pc := 8) (tgt := 21) X dX1_takeLoad_8 (by decide) (fun hc => ?_) (fun hc => ?_)
    · replace h := h.1 hc
      refine r_iconst (pc := 21) (v := (0 : Int32)) X dX1_takeLoad_21 (by decide) ?_
      exact r_zret (pc := 22) X hr dX1_takeLoad_22 nb0 h
    · replace h := h.2 hc
      refine r_iload_n (pc := 11) X 2 dX1_takeLoad_11 rfl rfl ?_
      refine r_if_lt (pc := 12) (tgt := 21) X dX1_takeLoad_12 (by decide) (fun hc => ?_) (fun hc => ?_)
      · replace h := h.1 hc
        refine r_iconst (pc := 21) (v := (0 : Int32)) X dX1_takeLoad_21 (by decide) ?_
        exact r_zret (pc := 22) X hr dX1_takeLoad_22 nb0 h
      · replace h := h.2 hc
        refine r_iload_n (pc := 15) X 2 dX1_takeLoad_15 rfl rfl ?_
        refine r_bipush (pc := 16) (v := (9 : Int32)) X dX1_takeLoad_16 (by decide) ?_
        refine r_icmp_le (pc := 18) (tgt := 23) X dX1_takeLoad_18 (by decide) (fun hc => ?_) (fun hc => ?_)
        · replace h := h.1 hc
          refine r_aload_n (pc := 23) X 0 dX1_takeLoad_23 rfl rfl ?_
          refine r_iload_n (pc := 24) X 1 dX1_takeLoad_24 rfl rfl ?_
          refine fp_X1_40 (pc := 25) X hT.1 dX1_takeLoad_25 (fun F1 e1 => ?_)
          replace h := h F1 e1
          refine r_aload_n (pc := 28) X 0 dX1_takeLoad_28 rfl rfl ?_
          refine r_iload_n (pc := 29) X 2 dX1_takeLoad_29 rfl rfl ?_
          refine fp_X1_43 (pc := 30) X hT.1 dX1_takeLoad_30 (fun F2 e1 => ?_)
          replace h := h F2 e1
          refine r_iconst (pc := 33) (v := (1 : Int32)) X dX1_takeLoad_33 (by decide) ?_
          exact r_zret (pc := 34) X hr dX1_takeLoad_34 nb1 h
        · replace h := h.2 hc
          refine r_iconst (pc := 21) (v := (0 : Int32)) X dX1_takeLoad_21 (by decide) ?_
          exact r_zret (pc := 22) X hr dX1_takeLoad_22 nb0 h
theorem dX1_takeRiver_0 : decode cX1_takeRiver 0 = .ok (.iload_n 1, 1) := by decide +kernel
theorem dX1_takeRiver_1 : decode cX1_takeRiver 1 = .ok (.iconst 1, 1) := by decide +kernel
theorem dX1_takeRiver_2 : decode cX1_takeRiver 2 = .ok (.if_icmp .lt 9, 3) := by decide +kernel
theorem dX1_takeRiver_5 : decode cX1_takeRiver 5 = .ok (.iload_n 1, 1) := by decide +kernel
theorem dX1_takeRiver_6 : decode cX1_takeRiver 6 = .ok (.bipush 9, 2) := by decide +kernel
theorem dX1_takeRiver_8 : decode cX1_takeRiver 8 = .ok (.if_icmp .le 5, 3) := by decide +kernel
theorem dX1_takeRiver_11 : decode cX1_takeRiver 11 = .ok (.iconst 0, 1) := by decide +kernel
theorem dX1_takeRiver_12 : decode cX1_takeRiver 12 = .ok (.ireturn, 1) := by decide +kernel
theorem dX1_takeRiver_13 : decode cX1_takeRiver 13 = .ok (.aload_n 0, 1) := by decide +kernel
theorem dX1_takeRiver_14 : decode cX1_takeRiver 14 = .ok (.iload_n 1, 1) := by decide +kernel
theorem dX1_takeRiver_15 : decode cX1_takeRiver 15 = .ok (.putfield 37, 3) := by decide +kernel
theorem dX1_takeRiver_18 : decode cX1_takeRiver 18 = .ok (.iconst 1, 1) := by decide +kernel
theorem dX1_takeRiver_19 : decode cX1_takeRiver 19 = .ok (.ireturn, 1) := by decide +kernel
theorem hd_X1_takeRiver : yX1_takeRiver.cls = RX1 ∧ yX1_takeRiver.cls ≠ "java/lang/invoke/MethodHandle" ∧ yX1_takeRiver.cls ≠ "java/lang/invoke/VarHandle" ∧ (parseMethodDescriptor yX1_takeRiver.desc).map (fun d => d.parameters.length) = some 1 := by decide +kernel
abbrev rm_X1_takeRiver : Room := { frames := 0, cells := 0, slots := 0, locals := 0 }
def wp_X1_takeRiver (K : Int32 → HF → Prop) (F : HF) (f : Nat) (a1 : Int32) : Prop := ((a1 < (1 : Int32)) → (K (0 : Int32) F)) ∧ ((¬ a1 < (1 : Int32)) → (((a1 ≤ (9 : Int32)) → (∀ F1 : HF, F1 = hup F f 7 a1 → (K (1 : Int32) F1))) ∧ ((¬ a1 ≤ (9 : Int32)) → (K (0 : Int32) F))))
set_option maxRecDepth 100000 in
set_option maxHeartbeats 4000000 in
theorem c_X1_takeRiver {l : Launch} {D : va_G} {dA : Nat → ClassId} {ad : Nat → Nat} {R : List Nat} {F : HF} {f : Nat} {a1 : Int32} {K : Int32 → HF → Prop} (hT : Fl R f) (h : wp_X1_takeRiver K F f a1) : MI l yX1_takeRiver cX1_takeRiver 2 .boolean rm_X1_takeRiver D dA ad R F [.ref (ad f), .int a1] K := by
  refine MI.of (own := RX1) (by decide) rfl (Nat.le_of_ble_eq_true rfl) ?_
  intro p e s m args below meth c A hA X hr
  unfold wp_X1_takeRiver at h
  show J p l e rm_X1_takeRiver s m args below meth c 2 D dA ad R A (QI D dA ad R A below args s K) F 0 [(0, .ref (ad f)), (1, .int a1)] []
  refine r_iload_n (pc := 0) X 1 dX1_takeRiver_0 rfl rfl ?_
  refine r_iconst (pc := 1) (v := (1 : Int32)) X dX1_takeRiver_1 (by decide) ?_
  refine r_icmp_lt (pc := 2) (tgt := 11) X dX1_takeRiver_2 (by decide) (fun hc => ?_) (fun hc => ?_)
  · replace h := h.1 hc
    refine r_iconst (pc := 11) (v := (0 : Int32)) X dX1_takeRiver_11 (by decide) ?_
    exact r_zret (pc := 12) X hr dX1_takeRiver_12 nb0 h
  · replace h := h.2 hc
    refine r_iload_n (pc := 5) X 1 dX1_takeRiver_5 rfl rfl ?_
    refine r_bipush (pc := 6) (v := (9 : Int32)) X dX1_takeRiver_6 (by decide) ?_
    refine r_icmp_le (pc := 8) (tgt := 13) X dX1_takeRiver_8 (by decide) (fun hc => ?_) (fun hc => ?_)
    · replace h := h.1 hc
      refine r_aload_n (pc := 13) X 0 dX1_takeRiver_13 rfl rfl ?_
      refine r_iload_n (pc := 14) X 1 dX1_takeRiver_14 rfl rfl ?_
      refine fp_X1_37 (pc := 15) X hT.1 dX1_takeRiver_15 (fun F1 e1 => ?_)
      replace h := h F1 e1
      refine r_iconst (pc := 18) (v := (1 : Int32)) X dX1_takeRiver_18 (by decide) ?_
      exact r_zret (pc := 19) X hr dX1_takeRiver_19 nb1 h
    · replace h := h.2 hc
      refine r_iconst (pc := 11) (v := (0 : Int32)) X dX1_takeRiver_11 (by decide) ?_
      exact r_zret (pc := 12) X hr dX1_takeRiver_12 nb0 h
theorem dX1_takeWind_0 : decode cX1_takeWind 0 = .ok (.aload_n 0, 1) := by decide +kernel
theorem dX1_takeWind_1 : decode cX1_takeWind 1 = .ok (.getfield 34, 3) := by decide +kernel
theorem dX1_takeWind_4 : decode cX1_takeWind 4 = .ok (.bipush 8, 2) := by decide +kernel
theorem dX1_takeWind_6 : decode cX1_takeWind 6 = .ok (.if_icmp .ge 13, 3) := by decide +kernel
theorem dX1_takeWind_9 : decode cX1_takeWind 9 = .ok (.iload_n 1, 1) := by decide +kernel
theorem dX1_takeWind_10 : decode cX1_takeWind 10 = .ok (.ifCond .lt 9, 3) := by decide +kernel
theorem dX1_takeWind_13 : decode cX1_takeWind 13 = .ok (.iload_n 1, 1) := by decide +kernel
theorem dX1_takeWind_14 : decode cX1_takeWind 14 = .ok (.bipush 20, 2) := by decide +kernel
theorem dX1_takeWind_16 : decode cX1_takeWind 16 = .ok (.if_icmp .le 5, 3) := by decide +kernel
theorem dX1_takeWind_19 : decode cX1_takeWind 19 = .ok (.iconst 0, 1) := by decide +kernel
theorem dX1_takeWind_20 : decode cX1_takeWind 20 = .ok (.ireturn, 1) := by decide +kernel
theorem dX1_takeWind_21 : decode cX1_takeWind 21 = .ok (.aload_n 0, 1) := by decide +kernel
theorem dX1_takeWind_22 : decode cX1_takeWind 22 = .ok (.getfield 24, 3) := by decide +kernel
theorem dX1_takeWind_25 : decode cX1_takeWind 25 = .ok (.aload_n 0, 1) := by decide +kernel
theorem dX1_takeWind_26 : decode cX1_takeWind 26 = .ok (.getfield 34, 3) := by decide +kernel
theorem dX1_takeWind_29 : decode cX1_takeWind 29 = .ok (.iload_n 1, 1) := by decide +kernel
theorem dX1_takeWind_30 : decode cX1_takeWind 30 = .ok (.iastore, 1) := by decide +kernel
theorem dX1_takeWind_31 : decode cX1_takeWind 31 = .ok (.aload_n 0, 1) := by decide +kernel
theorem dX1_takeWind_32 : decode cX1_takeWind 32 = .ok (.dup, 1) := by decide +kernel
theorem dX1_takeWind_33 : decode cX1_takeWind 33 = .ok (.getfield 34, 3) := by decide +kernel
theorem dX1_takeWind_36 : decode cX1_takeWind 36 = .ok (.iconst 1, 1) := by decide +kernel
theorem dX1_takeWind_37 : decode cX1_takeWind 37 = .ok (.iadd, 1) := by decide +kernel
theorem dX1_takeWind_38 : decode cX1_takeWind 38 = .ok (.putfield 34, 3) := by decide +kernel
theorem dX1_takeWind_41 : decode cX1_takeWind 41 = .ok (.iconst 1, 1) := by decide +kernel
theorem dX1_takeWind_42 : decode cX1_takeWind 42 = .ok (.ireturn, 1) := by decide +kernel
theorem hd_X1_takeWind : yX1_takeWind.cls = RX1 ∧ yX1_takeWind.cls ≠ "java/lang/invoke/MethodHandle" ∧ yX1_takeWind.cls ≠ "java/lang/invoke/VarHandle" ∧ (parseMethodDescriptor yX1_takeWind.desc).map (fun d => d.parameters.length) = some 1 := by decide +kernel
abbrev rm_X1_takeWind : Room := { frames := 0, cells := 0, slots := 0, locals := 0 }
def wp_X1_takeWind (K : Int32 → HF → Prop) (F : HF) (f : Nat) (a1 : Int32) : Prop := (((8 : Int32) ≤ (F f 6)) → (K (0 : Int32) F)) ∧ ((¬ (8 : Int32) ≤ (F f 6)) → (((a1 < 0) → (K (0 : Int32) F)) ∧ ((¬ a1 < 0) → (((a1 ≤ (20 : Int32)) → ((vp_in (F f 6) 8) ∧ (∀ F1 : HF, F1 = hup F (f + 5) (F f 6).toNatClampNeg a1 → (∀ F2 : HF, F2 = hup F1 f 6 ((F1 f 6) + (1 : Int32)) → (K (1 : Int32) F2))))) ∧ ((¬ a1 ≤ (20 : Int32)) → (K (0 : Int32) F))))))
set_option maxRecDepth 100000 in
set_option maxHeartbeats 4000000 in
theorem c_X1_takeWind {l : Launch} {D : va_G} {dA : Nat → ClassId} {ad : Nat → Nat} {R : List Nat} {F : HF} {f : Nat} {a1 : Int32} {K : Int32 → HF → Prop} (hT : Fl R f) (h : wp_X1_takeWind K F f a1) : MI l yX1_takeWind cX1_takeWind 2 .boolean rm_X1_takeWind D dA ad R F [.ref (ad f), .int a1] K := by
  refine MI.of (own := RX1) (by decide) rfl (Nat.le_of_ble_eq_true rfl) ?_
  intro p e s m args below meth c A hA X hr
  unfold wp_X1_takeWind at h
  show J p l e rm_X1_takeWind s m args below meth c 2 D dA ad R A (QI D dA ad R A below args s K) F 0 [(0, .ref (ad f)), (1, .int a1)] []
  refine r_aload_n (pc := 0) X 0 dX1_takeWind_0 rfl rfl ?_
  refine fg_X1_34 (pc := 1) X hT.1 dX1_takeWind_1 ?_
  refine r_bipush (pc := 4) (v := (8 : Int32)) X dX1_takeWind_4 (by decide) ?_
  refine r_icmp_ge (pc := 6) (tgt := 19) X dX1_takeWind_6 (by decide) (fun hc => ?_) (fun hc => ?_)
  · replace h := h.1 hc
    refine r_iconst (pc := 19) (v := (0 : Int32)) X dX1_takeWind_19 (by decide) ?_
    exact r_zret (pc := 20) X hr dX1_takeWind_20 nb0 h
  · replace h := h.2 hc
    refine r_iload_n (pc := 9) X 1 dX1_takeWind_9 rfl rfl ?_
    refine r_if_lt (pc := 10) (tgt := 19) X dX1_takeWind_10 (by decide) (fun hc => ?_) (fun hc => ?_)
    · replace h := h.1 hc
      refine r_iconst (pc := 19) (v := (0 : Int32)) X dX1_takeWind_19 (by decide) ?_
      exact r_zret (pc := 20) X hr dX1_takeWind_20 nb0 h
    · replace h := h.2 hc
      refine r_iload_n (pc := 13) X 1 dX1_takeWind_13 rfl rfl ?_
      refine r_bipush (pc := 14) (v := (20 : Int32)) X dX1_takeWind_14 (by decide) ?_
      refine r_icmp_le (pc := 16) (tgt := 21) X dX1_takeWind_16 (by decide) (fun hc => ?_) (fun hc => ?_)
      · replace h := h.1 hc
        refine r_aload_n (pc := 21) X 0 dX1_takeWind_21 rfl rfl ?_
        refine fg_X1_24 (pc := 22) X hT.1 dX1_takeWind_22 ?_
        refine r_aload_n (pc := 25) X 0 dX1_takeWind_25 rfl rfl ?_
        refine fg_X1_34 (pc := 26) X hT.1 dX1_takeWind_26 ?_
        refine r_iload_n (pc := 29) X 1 dX1_takeWind_29 rfl rfl ?_
        refine r_iast (pc := 30) X hT.2.2.2.2.2 h.1 dX1_takeWind_30 (fun F1 e1 => ?_)
        replace h := h.2 F1 e1
        refine r_aload_n (pc := 31) X 0 dX1_takeWind_31 rfl rfl ?_
        refine r_dup (pc := 32) X dX1_takeWind_32 rfl ?_
        refine fg_X1_34 (pc := 33) X hT.1 dX1_takeWind_33 ?_
        refine r_iconst (pc := 36) (v := (1 : Int32)) X dX1_takeWind_36 (by decide) ?_
        refine r_iadd (pc := 37) X dX1_takeWind_37 ?_
        refine fp_X1_34 (pc := 38) X hT.1 dX1_takeWind_38 (fun F2 e1 => ?_)
        replace h := h F2 e1
        refine r_iconst (pc := 41) (v := (1 : Int32)) X dX1_takeWind_41 (by decide) ?_
        exact r_zret (pc := 42) X hr dX1_takeWind_42 nb1 h
      · replace h := h.2 hc
        refine r_iconst (pc := 19) (v := (0 : Int32)) X dX1_takeWind_19 (by decide) ?_
        exact r_zret (pc := 20) X hr dX1_takeWind_20 nb0 h
theorem dX1_take_0 : decode cX1_take 0 = .ok (.aload_n 2, 1) := by decide +kernel
theorem dX1_take_1 : decode cX1_take 1 = .ok (.arraylength, 1) := by decide +kernel
theorem dX1_take_2 : decode cX1_take 2 = .ok (.iconst 4, 1) := by decide +kernel
theorem dX1_take_3 : decode cX1_take 3 = .ok (.if_icmp .ge 5, 3) := by decide +kernel
theorem dX1_take_6 : decode cX1_take 6 = .ok (.iconst 0, 1) := by decide +kernel
theorem dX1_take_7 : decode cX1_take 7 = .ok (.ireturn, 1) := by decide +kernel
theorem dX1_take_8 : decode cX1_take 8 = .ok (.iload_n 1, 1) := by decide +kernel
theorem dX1_take_9 : decode cX1_take 9 = .ok (.lookupswitch 87 #[(98, 43), (108, 76), (114, 60), (119, 68)], 43) := by decide +kernel
theorem dX1_take_52 : decode cX1_take 52 = .ok (.aload_n 0, 1) := by decide +kernel
theorem dX1_take_53 : decode cX1_take 53 = .ok (.aload_n 2, 1) := by decide +kernel
theorem dX1_take_54 : decode cX1_take 54 = .ok (.iconst 0, 1) := by decide +kernel
theorem dX1_take_55 : decode cX1_take 55 = .ok (.iaload, 1) := by decide +kernel
theorem dX1_take_56 : decode cX1_take 56 = .ok (.aload_n 2, 1) := by decide +kernel
theorem dX1_take_57 : decode cX1_take 57 = .ok (.iconst 1, 1) := by decide +kernel
theorem dX1_take_58 : decode cX1_take 58 = .ok (.iaload, 1) := by decide +kernel
theorem dX1_take_59 : decode cX1_take 59 = .ok (.aload_n 2, 1) := by decide +kernel
theorem dX1_take_60 : decode cX1_take 60 = .ok (.iconst 2, 1) := by decide +kernel
theorem dX1_take_61 : decode cX1_take 61 = .ok (.iaload, 1) := by decide +kernel
theorem dX1_take_62 : decode cX1_take 62 = .ok (.aload_n 2, 1) := by decide +kernel
theorem dX1_take_63 : decode cX1_take 63 = .ok (.iconst 3, 1) := by decide +kernel
theorem dX1_take_64 : decode cX1_take 64 = .ok (.iaload, 1) := by decide +kernel
theorem dX1_take_65 : decode cX1_take 65 = .ok (.invokevirtual 52, 3) := by decide +kernel
theorem dX1_take_68 : decode cX1_take 68 = .ok (.ireturn, 1) := by decide +kernel
theorem dX1_take_69 : decode cX1_take 69 = .ok (.aload_n 0, 1) := by decide +kernel
theorem dX1_take_70 : decode cX1_take 70 = .ok (.aload_n 2, 1) := by decide +kernel
theorem dX1_take_71 : decode cX1_take 71 = .ok (.iconst 0, 1) := by decide +kernel
theorem dX1_take_72 : decode cX1_take 72 = .ok (.iaload, 1) := by decide +kernel
theorem dX1_take_73 : decode cX1_take 73 = .ok (.invokevirtual 56, 3) := by decide +kernel
theorem dX1_take_76 : decode cX1_take 76 = .ok (.ireturn, 1) := by decide +kernel
theorem dX1_take_77 : decode cX1_take 77 = .ok (.aload_n 0, 1) := by decide +kernel
theorem dX1_take_78 : decode cX1_take 78 = .ok (.aload_n 2, 1) := by decide +kernel
theorem dX1_take_79 : decode cX1_take 79 = .ok (.iconst 0, 1) := by decide +kernel
theorem dX1_take_80 : decode cX1_take 80 = .ok (.iaload, 1) := by decide +kernel
theorem dX1_take_81 : decode cX1_take 81 = .ok (.invokevirtual 60, 3) := by decide +kernel
theorem dX1_take_84 : decode cX1_take 84 = .ok (.ireturn, 1) := by decide +kernel
theorem dX1_take_85 : decode cX1_take 85 = .ok (.aload_n 0, 1) := by decide +kernel
theorem dX1_take_86 : decode cX1_take 86 = .ok (.aload_n 2, 1) := by decide +kernel
theorem dX1_take_87 : decode cX1_take 87 = .ok (.iconst 0, 1) := by decide +kernel
theorem dX1_take_88 : decode cX1_take 88 = .ok (.iaload, 1) := by decide +kernel
theorem dX1_take_89 : decode cX1_take 89 = .ok (.aload_n 2, 1) := by decide +kernel
theorem dX1_take_90 : decode cX1_take 90 = .ok (.iconst 1, 1) := by decide +kernel
theorem dX1_take_91 : decode cX1_take 91 = .ok (.iaload, 1) := by decide +kernel
theorem dX1_take_92 : decode cX1_take 92 = .ok (.invokevirtual 63, 3) := by decide +kernel
theorem dX1_take_95 : decode cX1_take 95 = .ok (.ireturn, 1) := by decide +kernel
theorem dX1_take_96 : decode cX1_take 96 = .ok (.iconst 0, 1) := by decide +kernel
theorem dX1_take_97 : decode cX1_take 97 = .ok (.ireturn, 1) := by decide +kernel
theorem hd_X1_take : yX1_take.cls = RX1 ∧ yX1_take.cls ≠ "java/lang/invoke/MethodHandle" ∧ yX1_take.cls ≠ "java/lang/invoke/VarHandle" ∧ (parseMethodDescriptor yX1_take.desc).map (fun d => d.parameters.length) = some 2 := by decide +kernel
abbrev rm_X1_take : Room := { frames := 1, cells := 0, slots := 0, locals := 24 }
def wp_X1_take (K : Int32 → HF → Prop) (F : HF) (f : Nat) (r2 : Nat) (z2 : Nat) (a1 : Int32) : Prop := (((4 : Int32) ≤ (Int32.ofNat z2)) → ((((a1 = 98) → ((vp_in (0 : Int32) z2) ∧ ((vp_in (1 : Int32) z2) ∧ ((vp_in (2 : Int32) z2) ∧ ((vp_in (3 : Int32) z2) ∧ (wp_X1_takeBird (fun x1 F1 => (x1 = 0 ∨ x1 = 1) ∧ K x1 F1) F f (F r2 (0 : Int32).toNatClampNeg) (F r2 (1 : Int32).toNatClampNeg) (F r2 (2 : Int32).toNatClampNeg) (F r2 (3 : Int32).toNatClampNeg)))))))) ∧ (((a1 = 108) → ((vp_in (0 : Int32) z2) ∧ ((vp_in (1 : Int32) z2) ∧ (wp_X1_takeLoad (fun x2 F2 => (x2 = 0 ∨ x2 = 1) ∧ K x2 F2) F f (F r2 (0 : Int32).toNatClampNeg) (F r2 (1 : Int32).toNatClampNeg)))))) ∧ (((a1 = 114) → ((vp_in (0 : Int32) z2) ∧ (wp_X1_takeRiver (fun x3 F3 => (x3 = 0 ∨ x3 = 1) ∧ K x3 F3) F f (F r2 (0 : Int32).toNatClampNeg))))) ∧ (((a1 = 119) → ((vp_in (0 : Int32) z2) ∧ (wp_X1_takeWind (fun x4 F4 => (x4 = 0 ∨ x4 = 1) ∧ K x4 F4) F f (F r2 (0 : Int32).toNatClampNeg))))) ∧ ((¬ a1 = 98) → (¬ a1 = 108) → (¬ a1 = 114) → (¬ a1 = 119) → (K (0 : Int32) F)))) ∧ ((¬ (4 : Int32) ≤ (Int32.ofNat z2)) → (K (0 : Int32) F))
set_option maxRecDepth 100000 in
set_option maxHeartbeats 4000000 in
theorem c_X1_take {l : Launch} {D : va_G} {dA : Nat → ClassId} {ad : Nat → Nat} {R : List Nat} {F : HF} {f : Nat} {r2 : Nat} {z2 : Nat} {a1 : Int32} {K : Int32 → HF → Prop} (hT : Fl R f) (hr2 : IA R r2 z2) (h : wp_X1_take K F f r2 z2 a1) : MI l yX1_take cX1_take 3 .boolean rm_X1_take D dA ad R F [.ref (ad f), .int a1, .ref (ad r2)] K := by
  refine MI.of (own := RX1) (by decide) rfl (Nat.le_of_ble_eq_true rfl) ?_
  intro p e s m args below meth c A hA X hr
  unfold wp_X1_take at h
  show J p l e rm_X1_take s m args below meth c 3 D dA ad R A (QI D dA ad R A below args s K) F 0 [(0, .ref (ad f)), (1, .int a1), (2, .ref (ad r2))] []
  refine r_aload_n (pc := 0) X 2 dX1_take_0 rfl rfl ?_
  refine r_alen (pc := 1) (v := (Int32.ofNat z2)) X (Or.inl hr2) rfl dX1_take_1 ?_
  refine r_iconst (pc := 2) (v := (4 : Int32)) X dX1_take_2 (by decide) ?_
  refine r_icmp_ge (pc := 3) (tgt := 8) X dX1_take_3 (by decide) (fun hc => ?_) (fun hc => ?_)
  · replace h := h.1 hc
    refine r_iload_n (pc := 8) X 1 dX1_take_8 rfl rfl ?_
    by_cases hc98 : a1 = 98
    · replace h := h.1 hc98
      refine r_lookup (pc := 9) (off := 43) (tgt := 52) X dX1_take_9 (by decide) (by rw [hc98]; decide) (by decide) ?_
      refine r_aload_n (pc := 52) X 0 dX1_take_52 rfl rfl ?_
      refine r_aload_n (pc := 53) X 2 dX1_take_53 rfl rfl ?_
      refine r_iconst (pc := 54) (v := (0 : Int32)) X dX1_take_54 (by decide) ?_
      refine r_iald (pc := 55) X hr2 h.1 dX1_take_55 ?_
      replace h := h.2
      refine r_aload_n (pc := 56) X 2 dX1_take_56 rfl rfl ?_
      refine r_iconst (pc := 57) (v := (1 : Int32)) X dX1_take_57 (by decide) ?_
      refine r_iald (pc := 58) X hr2 h.1 dX1_take_58 ?_
      replace h := h.2
      refine r_aload_n (pc := 59) X 2 dX1_take_59 rfl rfl ?_
      refine r_iconst (pc := 60) (v := (2 : Int32)) X dX1_take_60 (by decide) ?_
      refine r_iald (pc := 61) X hr2 h.1 dX1_take_61 ?_
      replace h := h.2
      refine r_aload_n (pc := 62) X 2 dX1_take_62 rfl rfl ?_
      refine r_iconst (pc := 63) (v := (3 : Int32)) X dX1_take_63 (by decide) ?_
      refine r_iald (pc := 64) X hr2 h.1 dX1_take_64 ?_
      replace h := h.2
      refine r_callIV (pc := 65) (As := [.int (F r2 (0 : Int32).toNatClampNeg), .int (F r2 (1 : Int32).toNatClampNeg), .int (F r2 (2 : Int32).toNatClampNeg), .int (F r2 (3 : Int32).toNatClampNeg)]) (st := []) X hA (c_X1_takeBird hT h) g_X1_52 cl_X1 hT.1 hd_X1_takeBird rfl rfl rfl ⟨Nat.le_of_ble_eq_true rfl, Nat.le_of_ble_eq_true rfl⟩ rfl (Nat.le_of_ble_eq_true rfl) dX1_take_65 (fun x1 F1 h => ?_)
      exact r_zret (pc := 68) X hr dX1_take_68 (nbz h.1) h.2
    · replace h := h.2
      by_cases hc108 : a1 = 108
      · replace h := h.1 hc108
        refine r_lookup (pc := 9) (off := 76) (tgt := 85) X dX1_take_9 (by decide) (by rw [hc108]; decide) (by decide) ?_
        refine r_aload_n (pc := 85) X 0 dX1_take_85 rfl rfl ?_
        refine r_aload_n (pc := 86) X 2 dX1_take_86 rfl rfl ?_
        refine r_iconst (pc := 87) (v := (0 : Int32)) X dX1_take_87 (by decide) ?_
        refine r_iald (pc := 88) X hr2 h.1 dX1_take_88 ?_
        replace h := h.2
        refine r_aload_n (pc := 89) X 2 dX1_take_89 rfl rfl ?_
        refine r_iconst (pc := 90) (v := (1 : Int32)) X dX1_take_90 (by decide) ?_
        refine r_iald (pc := 91) X hr2 h.1 dX1_take_91 ?_
        replace h := h.2
        refine r_callIV (pc := 92) (As := [.int (F r2 (0 : Int32).toNatClampNeg), .int (F r2 (1 : Int32).toNatClampNeg)]) (st := []) X hA (c_X1_takeLoad hT h) g_X1_63 cl_X1 hT.1 hd_X1_takeLoad rfl rfl rfl ⟨Nat.le_of_ble_eq_true rfl, Nat.le_of_ble_eq_true rfl⟩ rfl (Nat.le_of_ble_eq_true rfl) dX1_take_92 (fun x2 F2 h => ?_)
        exact r_zret (pc := 95) X hr dX1_take_95 (nbz h.1) h.2
      · replace h := h.2
        by_cases hc114 : a1 = 114
        · replace h := h.1 hc114
          refine r_lookup (pc := 9) (off := 60) (tgt := 69) X dX1_take_9 (by decide) (by rw [hc114]; decide) (by decide) ?_
          refine r_aload_n (pc := 69) X 0 dX1_take_69 rfl rfl ?_
          refine r_aload_n (pc := 70) X 2 dX1_take_70 rfl rfl ?_
          refine r_iconst (pc := 71) (v := (0 : Int32)) X dX1_take_71 (by decide) ?_
          refine r_iald (pc := 72) X hr2 h.1 dX1_take_72 ?_
          replace h := h.2
          refine r_callIV (pc := 73) (As := [.int (F r2 (0 : Int32).toNatClampNeg)]) (st := []) X hA (c_X1_takeRiver hT h) g_X1_56 cl_X1 hT.1 hd_X1_takeRiver rfl rfl rfl ⟨Nat.le_of_ble_eq_true rfl, Nat.le_of_ble_eq_true rfl⟩ rfl (Nat.le_of_ble_eq_true rfl) dX1_take_73 (fun x3 F3 h => ?_)
          exact r_zret (pc := 76) X hr dX1_take_76 (nbz h.1) h.2
        · replace h := h.2
          by_cases hc119 : a1 = 119
          · replace h := h.1 hc119
            refine r_lookup (pc := 9) (off := 68) (tgt := 77) X dX1_take_9 (by decide) (by rw [hc119]; decide) (by decide) ?_
            refine r_aload_n (pc := 77) X 0 dX1_take_77 rfl rfl ?_
            refine r_aload_n (pc := 78) X 2 dX1_take_78 rfl rfl ?_
            refine r_iconst (pc := 79) (v := (0 : Int32)) X dX1_take_79 (by decide) ?_
            refine r_iald (pc := 80) X hr2 h.1 dX1_take_80 ?_
            replace h := h.2
            refine r_callIV (pc := 81) (As := [.int (F r2 (0 : Int32).toNatClampNeg)]) (st := []) X hA (c_X1_takeWind hT h) g_X1_60 cl_X1 hT.1 hd_X1_takeWind rfl rfl rfl ⟨Nat.le_of_ble_eq_true rfl, Nat.le_of_ble_eq_true rfl⟩ rfl (Nat.le_of_ble_eq_true rfl) dX1_take_81 (fun x4 F4 h => ?_)
            exact r_zret (pc := 84) X hr dX1_take_84 (nbz h.1) h.2
          · replace h := h.2
            replace h := h hc98 hc108 hc114 hc119
            refine r_lookup (pc := 9) (off := 87) (tgt := 96) X dX1_take_9 (by decide) (by rw [lv_osw hc98 (by decide), lv_osw hc108 (by decide), lv_osw hc114 (by decide), lv_osw hc119 (by decide)]; rfl) (by decide) ?_
            refine r_iconst (pc := 96) (v := (0 : Int32)) X dX1_take_96 (by decide) ?_
            exact r_zret (pc := 97) X hr dX1_take_97 nb0 h
  · replace h := h.2 hc
    refine r_iconst (pc := 6) (v := (0 : Int32)) X dX1_take_6 (by decide) ?_
    exact r_zret (pc := 7) X hr dX1_take_7 nb0 h
theorem dX1_birds_0 : decode cX1_birds 0 = .ok (.aload_n 0, 1) := by decide +kernel
theorem dX1_birds_1 : decode cX1_birds 1 = .ok (.getfield 30, 3) := by decide +kernel
theorem dX1_birds_4 : decode cX1_birds 4 = .ok (.ireturn, 1) := by decide +kernel
theorem hd_X1_birds : yX1_birds.cls = RX1 ∧ yX1_birds.cls ≠ "java/lang/invoke/MethodHandle" ∧ yX1_birds.cls ≠ "java/lang/invoke/VarHandle" ∧ (parseMethodDescriptor yX1_birds.desc).map (fun d => d.parameters.length) = some 0 := by decide +kernel
abbrev rm_X1_birds : Room := { frames := 0, cells := 0, slots := 0, locals := 0 }
def wp_X1_birds (K : Int32 → HF → Prop) (F : HF) (f : Nat) : Prop := K (F f 5) F
set_option maxRecDepth 100000 in
set_option maxHeartbeats 4000000 in
theorem c_X1_birds {l : Launch} {D : va_G} {dA : Nat → ClassId} {ad : Nat → Nat} {R : List Nat} {F : HF} {f : Nat} {K : Int32 → HF → Prop} (hT : Fl R f) (h : wp_X1_birds K F f) : MI l yX1_birds cX1_birds 1 .int rm_X1_birds D dA ad R F [.ref (ad f)] K := by
  refine MI.of (own := RX1) (by decide) rfl (Nat.le_of_ble_eq_true rfl) ?_
  intro p e s m args below meth c A hA X hr
  unfold wp_X1_birds at h
  show J p l e rm_X1_birds s m args below meth c 1 D dA ad R A (QI D dA ad R A below args s K) F 0 [(0, .ref (ad f))] []
  refine r_aload_n (pc := 0) X 0 dX1_birds_0 rfl rfl ?_
  refine fg_X1_30 (pc := 1) X hT.1 dX1_birds_1 ?_
  exact r_iret (pc := 4) X hr dX1_birds_4 h
theorem dX1_width_0 : decode cX1_width 0 = .ok (.aload_n 0, 1) := by decide +kernel
theorem dX1_width_1 : decode cX1_width 1 = .ok (.getfield 37, 3) := by decide +kernel
theorem dX1_width_4 : decode cX1_width 4 = .ok (.ireturn, 1) := by decide +kernel
theorem hd_X1_width : yX1_width.cls = RX1 ∧ yX1_width.cls ≠ "java/lang/invoke/MethodHandle" ∧ yX1_width.cls ≠ "java/lang/invoke/VarHandle" ∧ (parseMethodDescriptor yX1_width.desc).map (fun d => d.parameters.length) = some 0 := by decide +kernel
abbrev rm_X1_width : Room := { frames := 0, cells := 0, slots := 0, locals := 0 }
def wp_X1_width (K : Int32 → HF → Prop) (F : HF) (f : Nat) : Prop := K (F f 7) F
set_option maxRecDepth 100000 in
set_option maxHeartbeats 4000000 in
theorem c_X1_width {l : Launch} {D : va_G} {dA : Nat → ClassId} {ad : Nat → Nat} {R : List Nat} {F : HF} {f : Nat} {K : Int32 → HF → Prop} (hT : Fl R f) (h : wp_X1_width K F f) : MI l yX1_width cX1_width 1 .int rm_X1_width D dA ad R F [.ref (ad f)] K := by
  refine MI.of (own := RX1) (by decide) rfl (Nat.le_of_ble_eq_true rfl) ?_
  intro p e s m args below meth c A hA X hr
  unfold wp_X1_width at h
  show J p l e rm_X1_width s m args below meth c 1 D dA ad R A (QI D dA ad R A below args s K) F 0 [(0, .ref (ad f))] []
  refine r_aload_n (pc := 0) X 0 dX1_width_0 rfl rfl ?_
  refine fg_X1_37 (pc := 1) X hT.1 dX1_width_1 ?_
  exact r_iret (pc := 4) X hr dX1_width_4 h
theorem dX1_strengthOf_0 : decode cX1_strengthOf 0 = .ok (.iload_n 1, 1) := by decide +kernel
theorem dX1_strengthOf_1 : decode cX1_strengthOf 1 = .ok (.ifCond .lt 20, 3) := by decide +kernel
theorem dX1_strengthOf_4 : decode cX1_strengthOf 4 = .ok (.iload_n 1, 1) := by decide +kernel
theorem dX1_strengthOf_5 : decode cX1_strengthOf 5 = .ok (.aload_n 0, 1) := by decide +kernel
theorem dX1_strengthOf_6 : decode cX1_strengthOf 6 = .ok (.getfield 30, 3) := by decide +kernel
theorem dX1_strengthOf_9 : decode cX1_strengthOf 9 = .ok (.if_icmp .ge 12, 3) := by decide +kernel
theorem dX1_strengthOf_12 : decode cX1_strengthOf 12 = .ok (.aload_n 0, 1) := by decide +kernel
theorem dX1_strengthOf_13 : decode cX1_strengthOf 13 = .ok (.getfield 9, 3) := by decide +kernel
theorem dX1_strengthOf_16 : decode cX1_strengthOf 16 = .ok (.iload_n 1, 1) := by decide +kernel
theorem dX1_strengthOf_17 : decode cX1_strengthOf 17 = .ok (.iaload, 1) := by decide +kernel
theorem dX1_strengthOf_18 : decode cX1_strengthOf 18 = .ok (.goto 4, 3) := by decide +kernel
theorem dX1_strengthOf_21 : decode cX1_strengthOf 21 = .ok (.iconst 0, 1) := by decide +kernel
theorem dX1_strengthOf_22 : decode cX1_strengthOf 22 = .ok (.ireturn, 1) := by decide +kernel
theorem hd_X1_strengthOf : yX1_strengthOf.cls = RX1 ∧ yX1_strengthOf.cls ≠ "java/lang/invoke/MethodHandle" ∧ yX1_strengthOf.cls ≠ "java/lang/invoke/VarHandle" ∧ (parseMethodDescriptor yX1_strengthOf.desc).map (fun d => d.parameters.length) = some 1 := by decide +kernel
abbrev rm_X1_strengthOf : Room := { frames := 0, cells := 0, slots := 0, locals := 0 }
def wp_X1_strengthOf (K : Int32 → HF → Prop) (F : HF) (f : Nat) (a1 : Int32) : Prop := ((a1 < 0) → (K (0 : Int32) F)) ∧ ((¬ a1 < 0) → ((((F f 5) ≤ a1) → (K (0 : Int32) F)) ∧ ((¬ (F f 5) ≤ a1) → ((vp_in a1 8) ∧ (K (F (f + 1) a1.toNatClampNeg) F)))))
set_option maxRecDepth 100000 in
set_option maxHeartbeats 4000000 in
theorem c_X1_strengthOf {l : Launch} {D : va_G} {dA : Nat → ClassId} {ad : Nat → Nat} {R : List Nat} {F : HF} {f : Nat} {a1 : Int32} {K : Int32 → HF → Prop} (hT : Fl R f) (h : wp_X1_strengthOf K F f a1) : MI l yX1_strengthOf cX1_strengthOf 2 .int rm_X1_strengthOf D dA ad R F [.ref (ad f), .int a1] K := by
  refine MI.of (own := RX1) (by decide) rfl (Nat.le_of_ble_eq_true rfl) ?_
  intro p e s m args below meth c A hA X hr
  unfold wp_X1_strengthOf at h
  show J p l e rm_X1_strengthOf s m args below meth c 2 D dA ad R A (QI D dA ad R A below args s K) F 0 [(0, .ref (ad f)), (1, .int a1)] []
  refine r_iload_n (pc := 0) X 1 dX1_strengthOf_0 rfl rfl ?_
  refine r_if_lt (pc := 1) (tgt := 21) X dX1_strengthOf_1 (by decide) (fun hc => ?_) (fun hc => ?_)
  · replace h := h.1 hc
    refine r_iconst (pc := 21) (v := (0 : Int32)) X dX1_strengthOf_21 (by decide) ?_
    exact r_iret (pc := 22) X hr dX1_strengthOf_22 h
  · replace h := h.2 hc
    refine r_iload_n (pc := 4) X 1 dX1_strengthOf_4 rfl rfl ?_
    refine r_aload_n (pc := 5) X 0 dX1_strengthOf_5 rfl rfl ?_
    refine fg_X1_30 (pc := 6) X hT.1 dX1_strengthOf_6 ?_
    refine r_icmp_ge (pc := 9) (tgt := 21) X dX1_strengthOf_9 (by decide) (fun hc => ?_) (fun hc => ?_)
    · replace h := h.1 hc
      refine r_iconst (pc := 21) (v := (0 : Int32)) X dX1_strengthOf_21 (by decide) ?_
      exact r_iret (pc := 22) X hr dX1_strengthOf_22 h
    · replace h := h.2 hc
      refine r_aload_n (pc := 12) X 0 dX1_strengthOf_12 rfl rfl ?_
      refine fg_X1_9 (pc := 13) X hT.1 dX1_strengthOf_13 ?_
      refine r_iload_n (pc := 16) X 1 dX1_strengthOf_16 rfl rfl ?_
      refine r_iald (pc := 17) X hT.2.1 h.1 dX1_strengthOf_17 ?_
      replace h := h.2
      refine r_goto (pc := 18) (tgt := 22) X dX1_strengthOf_18 (by decide) ?_
      exact r_iret (pc := 22) X hr dX1_strengthOf_22 h
theorem dX1_lengthOf_0 : decode cX1_lengthOf 0 = .ok (.iload_n 1, 1) := by decide +kernel
theorem dX1_lengthOf_1 : decode cX1_lengthOf 1 = .ok (.ifCond .lt 20, 3) := by decide +kernel
theorem dX1_lengthOf_4 : decode cX1_lengthOf 4 = .ok (.iload_n 1, 1) := by decide +kernel
theorem dX1_lengthOf_5 : decode cX1_lengthOf 5 = .ok (.aload_n 0, 1) := by decide +kernel
theorem dX1_lengthOf_6 : decode cX1_lengthOf 6 = .ok (.getfield 30, 3) := by decide +kernel
theorem dX1_lengthOf_9 : decode cX1_lengthOf 9 = .ok (.if_icmp .ge 12, 3) := by decide +kernel
theorem dX1_lengthOf_12 : decode cX1_lengthOf 12 = .ok (.aload_n 0, 1) := by decide +kernel
theorem dX1_lengthOf_13 : decode cX1_lengthOf 13 = .ok (.getfield 15, 3) := by decide +kernel
theorem dX1_lengthOf_16 : decode cX1_lengthOf 16 = .ok (.iload_n 1, 1) := by decide +kernel
theorem dX1_lengthOf_17 : decode cX1_lengthOf 17 = .ok (.iaload, 1) := by decide +kernel
theorem dX1_lengthOf_18 : decode cX1_lengthOf 18 = .ok (.goto 4, 3) := by decide +kernel
theorem dX1_lengthOf_21 : decode cX1_lengthOf 21 = .ok (.iconst 0, 1) := by decide +kernel
theorem dX1_lengthOf_22 : decode cX1_lengthOf 22 = .ok (.ireturn, 1) := by decide +kernel
theorem hd_X1_lengthOf : yX1_lengthOf.cls = RX1 ∧ yX1_lengthOf.cls ≠ "java/lang/invoke/MethodHandle" ∧ yX1_lengthOf.cls ≠ "java/lang/invoke/VarHandle" ∧ (parseMethodDescriptor yX1_lengthOf.desc).map (fun d => d.parameters.length) = some 1 := by decide +kernel
abbrev rm_X1_lengthOf : Room := { frames := 0, cells := 0, slots := 0, locals := 0 }
def wp_X1_lengthOf (K : Int32 → HF → Prop) (F : HF) (f : Nat) (a1 : Int32) : Prop := ((a1 < 0) → (K (0 : Int32) F)) ∧ ((¬ a1 < 0) → ((((F f 5) ≤ a1) → (K (0 : Int32) F)) ∧ ((¬ (F f 5) ≤ a1) → ((vp_in a1 8) ∧ (K (F (f + 2) a1.toNatClampNeg) F)))))
set_option maxRecDepth 100000 in
set_option maxHeartbeats 4000000 in
theorem c_X1_lengthOf {l : Launch} {D : va_G} {dA : Nat → ClassId} {ad : Nat → Nat} {R : List Nat} {F : HF} {f : Nat} {a1 : Int32} {K : Int32 → HF → Prop} (hT : Fl R f) (h : wp_X1_lengthOf K F f a1) : MI l yX1_lengthOf cX1_lengthOf 2 .int rm_X1_lengthOf D dA ad R F [.ref (ad f), .int a1] K := by
  refine MI.of (own := RX1) (by decide) rfl (Nat.le_of_ble_eq_true rfl) ?_
  intro p e s m args below meth c A hA X hr
  unfold wp_X1_lengthOf at h
  show J p l e rm_X1_lengthOf s m args below meth c 2 D dA ad R A (QI D dA ad R A below args s K) F 0 [(0, .ref (ad f)), (1, .int a1)] []
  refine r_iload_n (pc := 0) X 1 dX1_lengthOf_0 rfl rfl ?_
  refine r_if_lt (pc := 1) (tgt := 21) X dX1_lengthOf_1 (by decide) (fun hc => ?_) (fun hc => ?_)
  · replace h := h.1 hc
    refine r_iconst (pc := 21) (v := (0 : Int32)) X dX1_lengthOf_21 (by decide) ?_
    exact r_iret (pc := 22) X hr dX1_lengthOf_22 h
  · replace h := h.2 hc
    refine r_iload_n (pc := 4) X 1 dX1_lengthOf_4 rfl rfl ?_
    refine r_aload_n (pc := 5) X 0 dX1_lengthOf_5 rfl rfl ?_
    refine fg_X1_30 (pc := 6) X hT.1 dX1_lengthOf_6 ?_
    refine r_icmp_ge (pc := 9) (tgt := 21) X dX1_lengthOf_9 (by decide) (fun hc => ?_) (fun hc => ?_)
    · replace h := h.1 hc
      refine r_iconst (pc := 21) (v := (0 : Int32)) X dX1_lengthOf_21 (by decide) ?_
      exact r_iret (pc := 22) X hr dX1_lengthOf_22 h
    · replace h := h.2 hc
      refine r_aload_n (pc := 12) X 0 dX1_lengthOf_12 rfl rfl ?_
      refine fg_X1_15 (pc := 13) X hT.1 dX1_lengthOf_13 ?_
      refine r_iload_n (pc := 16) X 1 dX1_lengthOf_16 rfl rfl ?_
      refine r_iald (pc := 17) X hT.2.2.1 h.1 dX1_lengthOf_17 ?_
      replace h := h.2
      refine r_goto (pc := 18) (tgt := 22) X dX1_lengthOf_18 (by decide) ?_
      exact r_iret (pc := 22) X hr dX1_lengthOf_22 h
theorem dX1_kindOf_0 : decode cX1_kindOf 0 = .ok (.iload_n 1, 1) := by decide +kernel
theorem dX1_kindOf_1 : decode cX1_kindOf 1 = .ok (.ifCond .lt 20, 3) := by decide +kernel
theorem dX1_kindOf_4 : decode cX1_kindOf 4 = .ok (.iload_n 1, 1) := by decide +kernel
theorem dX1_kindOf_5 : decode cX1_kindOf 5 = .ok (.aload_n 0, 1) := by decide +kernel
theorem dX1_kindOf_6 : decode cX1_kindOf 6 = .ok (.getfield 30, 3) := by decide +kernel
theorem dX1_kindOf_9 : decode cX1_kindOf 9 = .ok (.if_icmp .ge 12, 3) := by decide +kernel
theorem dX1_kindOf_12 : decode cX1_kindOf 12 = .ok (.aload_n 0, 1) := by decide +kernel
theorem dX1_kindOf_13 : decode cX1_kindOf 13 = .ok (.getfield 18, 3) := by decide +kernel
theorem dX1_kindOf_16 : decode cX1_kindOf 16 = .ok (.iload_n 1, 1) := by decide +kernel
theorem dX1_kindOf_17 : decode cX1_kindOf 17 = .ok (.iaload, 1) := by decide +kernel
theorem dX1_kindOf_18 : decode cX1_kindOf 18 = .ok (.goto 5, 3) := by decide +kernel
theorem dX1_kindOf_21 : decode cX1_kindOf 21 = .ok (.bipush (-4), 2) := by decide +kernel
theorem dX1_kindOf_23 : decode cX1_kindOf 23 = .ok (.ireturn, 1) := by decide +kernel
theorem hd_X1_kindOf : yX1_kindOf.cls = RX1 ∧ yX1_kindOf.cls ≠ "java/lang/invoke/MethodHandle" ∧ yX1_kindOf.cls ≠ "java/lang/invoke/VarHandle" ∧ (parseMethodDescriptor yX1_kindOf.desc).map (fun d => d.parameters.length) = some 1 := by decide +kernel
abbrev rm_X1_kindOf : Room := { frames := 0, cells := 0, slots := 0, locals := 0 }
def wp_X1_kindOf (K : Int32 → HF → Prop) (F : HF) (f : Nat) (a1 : Int32) : Prop := ((a1 < 0) → (K (-4 : Int32) F)) ∧ ((¬ a1 < 0) → ((((F f 5) ≤ a1) → (K (-4 : Int32) F)) ∧ ((¬ (F f 5) ≤ a1) → ((vp_in a1 8) ∧ (K (F (f + 3) a1.toNatClampNeg) F)))))
set_option maxRecDepth 100000 in
set_option maxHeartbeats 4000000 in
theorem c_X1_kindOf {l : Launch} {D : va_G} {dA : Nat → ClassId} {ad : Nat → Nat} {R : List Nat} {F : HF} {f : Nat} {a1 : Int32} {K : Int32 → HF → Prop} (hT : Fl R f) (h : wp_X1_kindOf K F f a1) : MI l yX1_kindOf cX1_kindOf 2 .int rm_X1_kindOf D dA ad R F [.ref (ad f), .int a1] K := by
  refine MI.of (own := RX1) (by decide) rfl (Nat.le_of_ble_eq_true rfl) ?_
  intro p e s m args below meth c A hA X hr
  unfold wp_X1_kindOf at h
  show J p l e rm_X1_kindOf s m args below meth c 2 D dA ad R A (QI D dA ad R A below args s K) F 0 [(0, .ref (ad f)), (1, .int a1)] []
  refine r_iload_n (pc := 0) X 1 dX1_kindOf_0 rfl rfl ?_
  refine r_if_lt (pc := 1) (tgt := 21) X dX1_kindOf_1 (by decide) (fun hc => ?_) (fun hc => ?_)
  · replace h := h.1 hc
    refine r_bipush (pc := 21) (v := (-4 : Int32)) X dX1_kindOf_21 (by decide) ?_
    exact r_iret (pc := 23) X hr dX1_kindOf_23 h
  · replace h := h.2 hc
    refine r_iload_n (pc := 4) X 1 dX1_kindOf_4 rfl rfl ?_
    refine r_aload_n (pc := 5) X 0 dX1_kindOf_5 rfl rfl ?_
    refine fg_X1_30 (pc := 6) X hT.1 dX1_kindOf_6 ?_
    refine r_icmp_ge (pc := 9) (tgt := 21) X dX1_kindOf_9 (by decide) (fun hc => ?_) (fun hc => ?_)
    · replace h := h.1 hc
      refine r_bipush (pc := 21) (v := (-4 : Int32)) X dX1_kindOf_21 (by decide) ?_
      exact r_iret (pc := 23) X hr dX1_kindOf_23 h
    · replace h := h.2 hc
      refine r_aload_n (pc := 12) X 0 dX1_kindOf_12 rfl rfl ?_
      refine fg_X1_18 (pc := 13) X hT.1 dX1_kindOf_13 ?_
      refine r_iload_n (pc := 16) X 1 dX1_kindOf_16 rfl rfl ?_
      refine r_iald (pc := 17) X hT.2.2.2.1 h.1 dX1_kindOf_17 ?_
      replace h := h.2
      refine r_goto (pc := 18) (tgt := 23) X dX1_kindOf_18 (by decide) ?_
      exact r_iret (pc := 23) X hr dX1_kindOf_23 h
theorem dX1_woodOf_0 : decode cX1_woodOf 0 = .ok (.iload_n 1, 1) := by decide +kernel
theorem dX1_woodOf_1 : decode cX1_woodOf 1 = .ok (.ifCond .lt 20, 3) := by decide +kernel
theorem dX1_woodOf_4 : decode cX1_woodOf 4 = .ok (.iload_n 1, 1) := by decide +kernel
theorem dX1_woodOf_5 : decode cX1_woodOf 5 = .ok (.aload_n 0, 1) := by decide +kernel
theorem dX1_woodOf_6 : decode cX1_woodOf 6 = .ok (.getfield 30, 3) := by decide +kernel
theorem dX1_woodOf_9 : decode cX1_woodOf 9 = .ok (.if_icmp .ge 12, 3) := by decide +kernel
theorem dX1_woodOf_12 : decode cX1_woodOf 12 = .ok (.aload_n 0, 1) := by decide +kernel
theorem dX1_woodOf_13 : decode cX1_woodOf 13 = .ok (.getfield 21, 3) := by decide +kernel
theorem dX1_woodOf_16 : decode cX1_woodOf 16 = .ok (.iload_n 1, 1) := by decide +kernel
theorem dX1_woodOf_17 : decode cX1_woodOf 17 = .ok (.iaload, 1) := by decide +kernel
theorem dX1_woodOf_18 : decode cX1_woodOf 18 = .ok (.goto 4, 3) := by decide +kernel
theorem dX1_woodOf_21 : decode cX1_woodOf 21 = .ok (.iconst 0, 1) := by decide +kernel
theorem dX1_woodOf_22 : decode cX1_woodOf 22 = .ok (.ireturn, 1) := by decide +kernel
theorem hd_X1_woodOf : yX1_woodOf.cls = RX1 ∧ yX1_woodOf.cls ≠ "java/lang/invoke/MethodHandle" ∧ yX1_woodOf.cls ≠ "java/lang/invoke/VarHandle" ∧ (parseMethodDescriptor yX1_woodOf.desc).map (fun d => d.parameters.length) = some 1 := by decide +kernel
abbrev rm_X1_woodOf : Room := { frames := 0, cells := 0, slots := 0, locals := 0 }
def wp_X1_woodOf (K : Int32 → HF → Prop) (F : HF) (f : Nat) (a1 : Int32) : Prop := ((a1 < 0) → (K (0 : Int32) F)) ∧ ((¬ a1 < 0) → ((((F f 5) ≤ a1) → (K (0 : Int32) F)) ∧ ((¬ (F f 5) ≤ a1) → ((vp_in a1 8) ∧ (K (F (f + 4) a1.toNatClampNeg) F)))))
set_option maxRecDepth 100000 in
set_option maxHeartbeats 4000000 in
theorem c_X1_woodOf {l : Launch} {D : va_G} {dA : Nat → ClassId} {ad : Nat → Nat} {R : List Nat} {F : HF} {f : Nat} {a1 : Int32} {K : Int32 → HF → Prop} (hT : Fl R f) (h : wp_X1_woodOf K F f a1) : MI l yX1_woodOf cX1_woodOf 2 .int rm_X1_woodOf D dA ad R F [.ref (ad f), .int a1] K := by
  refine MI.of (own := RX1) (by decide) rfl (Nat.le_of_ble_eq_true rfl) ?_
  intro p e s m args below meth c A hA X hr
  unfold wp_X1_woodOf at h
  show J p l e rm_X1_woodOf s m args below meth c 2 D dA ad R A (QI D dA ad R A below args s K) F 0 [(0, .ref (ad f)), (1, .int a1)] []
  refine r_iload_n (pc := 0) X 1 dX1_woodOf_0 rfl rfl ?_
  refine r_if_lt (pc := 1) (tgt := 21) X dX1_woodOf_1 (by decide) (fun hc => ?_) (fun hc => ?_)
  · replace h := h.1 hc
    refine r_iconst (pc := 21) (v := (0 : Int32)) X dX1_woodOf_21 (by decide) ?_
    exact r_iret (pc := 22) X hr dX1_woodOf_22 h
  · replace h := h.2 hc
    refine r_iload_n (pc := 4) X 1 dX1_woodOf_4 rfl rfl ?_
    refine r_aload_n (pc := 5) X 0 dX1_woodOf_5 rfl rfl ?_
    refine fg_X1_30 (pc := 6) X hT.1 dX1_woodOf_6 ?_
    refine r_icmp_ge (pc := 9) (tgt := 21) X dX1_woodOf_9 (by decide) (fun hc => ?_) (fun hc => ?_)
    · replace h := h.1 hc
      refine r_iconst (pc := 21) (v := (0 : Int32)) X dX1_woodOf_21 (by decide) ?_
      exact r_iret (pc := 22) X hr dX1_woodOf_22 h
    · replace h := h.2 hc
      refine r_aload_n (pc := 12) X 0 dX1_woodOf_12 rfl rfl ?_
      refine fg_X1_21 (pc := 13) X hT.1 dX1_woodOf_13 ?_
      refine r_iload_n (pc := 16) X 1 dX1_woodOf_16 rfl rfl ?_
      refine r_iald (pc := 17) X hT.2.2.2.2.1 h.1 dX1_woodOf_17 ?_
      replace h := h.2
      refine r_goto (pc := 18) (tgt := 22) X dX1_woodOf_18 (by decide) ?_
      exact r_iret (pc := 22) X hr dX1_woodOf_22 h
theorem dX1_windIn_0 : decode cX1_windIn 0 = .ok (.iload_n 1, 1) := by decide +kernel
theorem dX1_windIn_1 : decode cX1_windIn 1 = .ok (.ifCond .lt 10, 3) := by decide +kernel
theorem dX1_windIn_4 : decode cX1_windIn 4 = .ok (.aload_n 0, 1) := by decide +kernel
theorem dX1_windIn_5 : decode cX1_windIn 5 = .ok (.getfield 34, 3) := by decide +kernel
theorem dX1_windIn_8 : decode cX1_windIn 8 = .ok (.ifCond .ne 7, 3) := by decide +kernel
theorem dX1_windIn_11 : decode cX1_windIn 11 = .ok (.iconst 0, 1) := by decide +kernel
theorem dX1_windIn_12 : decode cX1_windIn 12 = .ok (.goto 14, 3) := by decide +kernel
theorem dX1_windIn_15 : decode cX1_windIn 15 = .ok (.aload_n 0, 1) := by decide +kernel
theorem dX1_windIn_16 : decode cX1_windIn 16 = .ok (.getfield 24, 3) := by decide +kernel
theorem dX1_windIn_19 : decode cX1_windIn 19 = .ok (.iload_n 1, 1) := by decide +kernel
theorem dX1_windIn_20 : decode cX1_windIn 20 = .ok (.aload_n 0, 1) := by decide +kernel
theorem dX1_windIn_21 : decode cX1_windIn 21 = .ok (.getfield 34, 3) := by decide +kernel
theorem dX1_windIn_24 : decode cX1_windIn 24 = .ok (.irem, 1) := by decide +kernel
theorem dX1_windIn_25 : decode cX1_windIn 25 = .ok (.iaload, 1) := by decide +kernel
theorem dX1_windIn_26 : decode cX1_windIn 26 = .ok (.ireturn, 1) := by decide +kernel
theorem hd_X1_windIn : yX1_windIn.cls = RX1 ∧ yX1_windIn.cls ≠ "java/lang/invoke/MethodHandle" ∧ yX1_windIn.cls ≠ "java/lang/invoke/VarHandle" ∧ (parseMethodDescriptor yX1_windIn.desc).map (fun d => d.parameters.length) = some 1 := by decide +kernel
abbrev rm_X1_windIn : Room := { frames := 0, cells := 0, slots := 0, locals := 0 }
def wp_X1_windIn (K : Int32 → HF → Prop) (F : HF) (f : Nat) (a1 : Int32) : Prop := ((a1 < 0) → (K (0 : Int32) F)) ∧ ((¬ a1 < 0) → (((¬ (F f 6) = 0) → ((¬ (F f 6) = 0) ∧ ((vp_in (a1 - a1 / (F f 6) * (F f 6)) 8) ∧ (K (F (f + 5) (a1 - a1 / (F f 6) * (F f 6)).toNatClampNeg) F)))) ∧ (((F f 6) = 0) → (K (0 : Int32) F))))
set_option maxRecDepth 100000 in
set_option maxHeartbeats 4000000 in
theorem c_X1_windIn {l : Launch} {D : va_G} {dA : Nat → ClassId} {ad : Nat → Nat} {R : List Nat} {F : HF} {f : Nat} {a1 : Int32} {K : Int32 → HF → Prop} (hT : Fl R f) (h : wp_X1_windIn K F f a1) : MI l yX1_windIn cX1_windIn 2 .int rm_X1_windIn D dA ad R F [.ref (ad f), .int a1] K := by
  refine MI.of (own := RX1) (by decide) rfl (Nat.le_of_ble_eq_true rfl) ?_
  intro p e s m args below meth c A hA X hr
  unfold wp_X1_windIn at h
  show J p l e rm_X1_windIn s m args below meth c 2 D dA ad R A (QI D dA ad R A below args s K) F 0 [(0, .ref (ad f)), (1, .int a1)] []
  refine r_iload_n (pc := 0) X 1 dX1_windIn_0 rfl rfl ?_
  refine r_if_lt (pc := 1) (tgt := 11) X dX1_windIn_1 (by decide) (fun hc => ?_) (fun hc => ?_)
  · replace h := h.1 hc
    refine r_iconst (pc := 11) (v := (0 : Int32)) X dX1_windIn_11 (by decide) ?_
    refine r_goto (pc := 12) (tgt := 26) X dX1_windIn_12 (by decide) ?_
    exact r_iret (pc := 26) X hr dX1_windIn_26 h
  · replace h := h.2 hc
    refine r_aload_n (pc := 4) X 0 dX1_windIn_4 rfl rfl ?_
    refine fg_X1_34 (pc := 5) X hT.1 dX1_windIn_5 ?_
    refine r_if_ne (pc := 8) (tgt := 15) X dX1_windIn_8 (by decide) (fun hc => ?_) (fun hc => ?_)
    · replace h := h.1 hc
      refine r_aload_n (pc := 15) X 0 dX1_windIn_15 rfl rfl ?_
      refine fg_X1_24 (pc := 16) X hT.1 dX1_windIn_16 ?_
      refine r_iload_n (pc := 19) X 1 dX1_windIn_19 rfl rfl ?_
      refine r_aload_n (pc := 20) X 0 dX1_windIn_20 rfl rfl ?_
      refine fg_X1_34 (pc := 21) X hT.1 dX1_windIn_21 ?_
      refine r_irem (pc := 24) X dX1_windIn_24 h.1 ?_
      replace h := h.2
      refine r_iald (pc := 25) X hT.2.2.2.2.2 h.1 dX1_windIn_25 ?_
      replace h := h.2
      exact r_iret (pc := 26) X hr dX1_windIn_26 h
    · replace h := h.2 hc
      refine r_iconst (pc := 11) (v := (0 : Int32)) X dX1_windIn_11 (by decide) ?_
      refine r_goto (pc := 12) (tgt := 26) X dX1_windIn_12 (by decide) ?_
      exact r_iret (pc := 26) X hr dX1_windIn_26 h
theorem dX1_weightIn_0 : decode cX1_weightIn 0 = .ok (.aload_n 0, 1) := by decide +kernel
theorem dX1_weightIn_1 : decode cX1_weightIn 1 = .ok (.getfield 40, 3) := by decide +kernel
theorem dX1_weightIn_4 : decode cX1_weightIn 4 = .ok (.aload_n 0, 1) := by decide +kernel
theorem dX1_weightIn_5 : decode cX1_weightIn 5 = .ok (.getfield 43, 3) := by decide +kernel
theorem dX1_weightIn_8 : decode cX1_weightIn 8 = .ok (.iload_n 1, 1) := by decide +kernel
theorem dX1_weightIn_9 : decode cX1_weightIn 9 = .ok (.imul, 1) := by decide +kernel
theorem dX1_weightIn_10 : decode cX1_weightIn 10 = .ok (.iadd, 1) := by decide +kernel
theorem dX1_weightIn_11 : decode cX1_weightIn 11 = .ok (.ireturn, 1) := by decide +kernel
theorem hd_X1_weightIn : yX1_weightIn.cls = RX1 ∧ yX1_weightIn.cls ≠ "java/lang/invoke/MethodHandle" ∧ yX1_weightIn.cls ≠ "java/lang/invoke/VarHandle" ∧ (parseMethodDescriptor yX1_weightIn.desc).map (fun d => d.parameters.length) = some 1 := by decide +kernel
abbrev rm_X1_weightIn : Room := { frames := 0, cells := 0, slots := 0, locals := 0 }
def wp_X1_weightIn (K : Int32 → HF → Prop) (F : HF) (f : Nat) (a1 : Int32) : Prop := K ((F f 8) + ((F f 9) * a1)) F
set_option maxRecDepth 100000 in
set_option maxHeartbeats 4000000 in
theorem c_X1_weightIn {l : Launch} {D : va_G} {dA : Nat → ClassId} {ad : Nat → Nat} {R : List Nat} {F : HF} {f : Nat} {a1 : Int32} {K : Int32 → HF → Prop} (hT : Fl R f) (h : wp_X1_weightIn K F f a1) : MI l yX1_weightIn cX1_weightIn 2 .int rm_X1_weightIn D dA ad R F [.ref (ad f), .int a1] K := by
  refine MI.of (own := RX1) (by decide) rfl (Nat.le_of_ble_eq_true rfl) ?_
  intro p e s m args below meth c A hA X hr
  unfold wp_X1_weightIn at h
  show J p l e rm_X1_weightIn s m args below meth c 2 D dA ad R A (QI D dA ad R A below args s K) F 0 [(0, .ref (ad f)), (1, .int a1)] []
  refine r_aload_n (pc := 0) X 0 dX1_weightIn_0 rfl rfl ?_
  refine fg_X1_40 (pc := 1) X hT.1 dX1_weightIn_1 ?_
  refine r_aload_n (pc := 4) X 0 dX1_weightIn_4 rfl rfl ?_
  refine fg_X1_43 (pc := 5) X hT.1 dX1_weightIn_5 ?_
  refine r_iload_n (pc := 8) X 1 dX1_weightIn_8 rfl rfl ?_
  refine r_imul (pc := 9) X dX1_weightIn_9 ?_
  refine r_iadd (pc := 10) X dX1_weightIn_10 ?_
  exact r_iret (pc := 11) X hr dX1_weightIn_11 h
theorem dX1_hasCrow_0 : decode cX1_hasCrow 0 = .ok (.iconst 0, 1) := by decide +kernel
theorem dX1_hasCrow_1 : decode cX1_hasCrow 1 = .ok (.istore_n 1, 1) := by decide +kernel
theorem dX1_hasCrow_2 : decode cX1_hasCrow 2 = .ok (.iload_n 1, 1) := by decide +kernel
theorem dX1_hasCrow_3 : decode cX1_hasCrow 3 = .ok (.aload_n 0, 1) := by decide +kernel
theorem dX1_hasCrow_4 : decode cX1_hasCrow 4 = .ok (.getfield 30, 3) := by decide +kernel
theorem dX1_hasCrow_7 : decode cX1_hasCrow 7 = .ok (.if_icmp .ge 21, 3) := by decide +kernel
theorem dX1_hasCrow_10 : decode cX1_hasCrow 10 = .ok (.aload_n 0, 1) := by decide +kernel
theorem dX1_hasCrow_11 : decode cX1_hasCrow 11 = .ok (.getfield 18, 3) := by decide +kernel
theorem dX1_hasCrow_14 : decode cX1_hasCrow 14 = .ok (.iload_n 1, 1) := by decide +kernel
theorem dX1_hasCrow_15 : decode cX1_hasCrow 15 = .ok (.iaload, 1) := by decide +kernel
theorem dX1_hasCrow_16 : decode cX1_hasCrow 16 = .ok (.iconst 1, 1) := by decide +kernel
theorem dX1_hasCrow_17 : decode cX1_hasCrow 17 = .ok (.if_icmp .ne 5, 3) := by decide +kernel
theorem dX1_hasCrow_20 : decode cX1_hasCrow 20 = .ok (.iconst 1, 1) := by decide +kernel
theorem dX1_hasCrow_21 : decode cX1_hasCrow 21 = .ok (.ireturn, 1) := by decide +kernel
theorem dX1_hasCrow_22 : decode cX1_hasCrow 22 = .ok (.iinc 1 1, 3) := by decide +kernel
theorem dX1_hasCrow_25 : decode cX1_hasCrow 25 = .ok (.goto (-23), 3) := by decide +kernel
theorem dX1_hasCrow_28 : decode cX1_hasCrow 28 = .ok (.iconst 0, 1) := by decide +kernel
theorem dX1_hasCrow_29 : decode cX1_hasCrow 29 = .ok (.ireturn, 1) := by decide +kernel
theorem hd_X1_hasCrow : yX1_hasCrow.cls = RX1 ∧ yX1_hasCrow.cls ≠ "java/lang/invoke/MethodHandle" ∧ yX1_hasCrow.cls ≠ "java/lang/invoke/VarHandle" ∧ (parseMethodDescriptor yX1_hasCrow.desc).map (fun d => d.parameters.length) = some 0 := by decide +kernel
abbrev rm_X1_hasCrow : Room := { frames := 0, cells := 0, slots := 0, locals := 0 }
def wp_X1_hasCrow_2 (K : Int32 → HF → Prop) (f : Nat) : Nat → HF → Int32 → Prop
  | 0 => fun _ _ => False
  | n_ + 1 => fun F v1 => (((F f 5) ≤ v1) → (K (0 : Int32) F)) ∧ ((¬ (F f 5) ≤ v1) → ((vp_in v1 8) ∧ (((¬ (F (f + 3) v1.toNatClampNeg) = (1 : Int32)) → (wp_X1_hasCrow_2 K f  n_ F (v1 + (1)))) ∧ (((F (f + 3) v1.toNatClampNeg) = (1 : Int32)) → (K (1 : Int32) F)))))
set_option maxRecDepth 100000 in
set_option maxHeartbeats 4000000 in
theorem k_X1_hasCrow_2 {p : Program} {l : Launch} {e : Env} {s : State} {m : MethodId} {args : Array Value} {below : List Frame} {meth : Method} {c : Code} {D : va_G} {dA : Nat → ClassId} {ad : Nat → Nat} {R : List Nat} {A : Nat → Prop} {K : Int32 → HF → Prop} {f : Nat} (X : Cx p s m args meth c cX1_hasCrow 2 RX1 D dA) (hA : ∀ q, s.heap.size ≤ q → A q) (hr : meth.sig.returnType = some .boolean) (hT : Fl R f) : ∀ (n_ : Nat) (F : HF) (v1 : Int32), wp_X1_hasCrow_2 K f n_ F v1 → J p l e rm_X1_hasCrow s m args below meth c 2 D dA ad R A (QI D dA ad R A below args s K) F 2 [(0, .ref (ad f)), (1, .int v1)] [] := by
  intro n_
  induction n_ with
  | zero => intro F v1 h; exact h.elim
  | succ n_ ih =>
    intro F v1 h
    unfold wp_X1_hasCrow_2 at h
    refine r_iload_n (pc := 2) X 1 dX1_hasCrow_2 rfl rfl ?_
    refine r_aload_n (pc := 3) X 0 dX1_hasCrow_3 rfl rfl ?_
    refine fg_X1_30 (pc := 4) X hT.1 dX1_hasCrow_4 ?_
    refine r_icmp_ge (pc := 7) (tgt := 28) X dX1_hasCrow_7 (by decide) (fun hc => ?_) (fun hc => ?_)
    · replace h := h.1 hc
      refine r_iconst (pc := 28) (v := (0 : Int32)) X dX1_hasCrow_28 (by decide) ?_
      exact r_zret (pc := 29) X hr dX1_hasCrow_29 nb0 h
    · replace h := h.2 hc
      refine r_aload_n (pc := 10) X 0 dX1_hasCrow_10 rfl rfl ?_
      refine fg_X1_18 (pc := 11) X hT.1 dX1_hasCrow_11 ?_
      refine r_iload_n (pc := 14) X 1 dX1_hasCrow_14 rfl rfl ?_
      refine r_iald (pc := 15) X hT.2.2.2.1 h.1 dX1_hasCrow_15 ?_
      replace h := h.2
      refine r_iconst (pc := 16) (v := (1 : Int32)) X dX1_hasCrow_16 (by decide) ?_
      refine r_icmp_ne (pc := 17) (tgt := 22) X dX1_hasCrow_17 (by decide) (fun hc => ?_) (fun hc => ?_)
      · replace h := h.1 hc
        refine r_iinc (pc := 22) (v := (v1 + (1))) X 1 [(1, .int (v1 + (1))), (0, .ref (ad f))] dX1_hasCrow_22 rfl rfl (by decide) rfl ?_
        refine r_goto (pc := 25) (tgt := 2) X dX1_hasCrow_25 (by decide) ?_
        refine r_sub [1, 0] rfl ?_
        exact ih _ _ h
      · replace h := h.2 hc
        refine r_iconst (pc := 20) (v := (1 : Int32)) X dX1_hasCrow_20 (by decide) ?_
        exact r_zret (pc := 21) X hr dX1_hasCrow_21 nb1 h
def wp_X1_hasCrow (K : Int32 → HF → Prop) (F : HF) (f : Nat) : Prop := ∃ n_, wp_X1_hasCrow_2 K f  n_ F (0 : Int32)
set_option maxRecDepth 100000 in
set_option maxHeartbeats 4000000 in
theorem c_X1_hasCrow {l : Launch} {D : va_G} {dA : Nat → ClassId} {ad : Nat → Nat} {R : List Nat} {F : HF} {f : Nat} {K : Int32 → HF → Prop} (hT : Fl R f) (h : wp_X1_hasCrow K F f) : MI l yX1_hasCrow cX1_hasCrow 2 .boolean rm_X1_hasCrow D dA ad R F [.ref (ad f)] K := by
  refine MI.of (own := RX1) (by decide) rfl (Nat.le_of_ble_eq_true rfl) ?_
  intro p e s m args below meth c A hA X hr
  unfold wp_X1_hasCrow at h
  show J p l e rm_X1_hasCrow s m args below meth c 2 D dA ad R A (QI D dA ad R A below args s K) F 0 [(0, .ref (ad f))] []
  refine r_iconst (pc := 0) (v := (0 : Int32)) X dX1_hasCrow_0 (by decide) ?_
  refine r_istore_n (pc := 1) X [(1, .int (0 : Int32)), (0, .ref (ad f))] dX1_hasCrow_1 rfl (by decide) rfl ?_
  refine r_sub [1, 0] rfl ?_
  obtain ⟨n1, h⟩ := h
  exact k_X1_hasCrow_2 X hA hr hT  n1 _ _ h
end
section
theorem dX0_rest_0 : decode cX0_rest 0 = .ok (.iconst 0, 1) := by decide +kernel
theorem dX0_rest_1 : decode cX0_rest 1 = .ok (.istore_n 1, 1) := by decide +kernel
theorem dX0_rest_2 : decode cX0_rest 2 = .ok (.iload_n 1, 1) := by decide +kernel
theorem dX0_rest_3 : decode cX0_rest 3 = .ok (.bipush 8, 2) := by decide +kernel
theorem dX0_rest_5 : decode cX0_rest 5 = .ok (.if_icmp .ge 16, 3) := by decide +kernel
theorem dX0_rest_8 : decode cX0_rest 8 = .ok (.aload_n 0, 1) := by decide +kernel
theorem dX0_rest_9 : decode cX0_rest 9 = .ok (.getfield 15, 3) := by decide +kernel
theorem dX0_rest_12 : decode cX0_rest 12 = .ok (.iload_n 1, 1) := by decide +kernel
theorem dX0_rest_13 : decode cX0_rest 13 = .ok (.iconst 0, 1) := by decide +kernel
theorem dX0_rest_14 : decode cX0_rest 14 = .ok (.iastore, 1) := by decide +kernel
theorem dX0_rest_15 : decode cX0_rest 15 = .ok (.iinc 1 1, 3) := by decide +kernel
theorem dX0_rest_18 : decode cX0_rest 18 = .ok (.goto (-16), 3) := by decide +kernel
theorem dX0_rest_21 : decode cX0_rest 21 = .ok (.return_, 1) := by decide +kernel
theorem hd_X0_rest : yX0_rest.cls = RX0 ∧ yX0_rest.cls ≠ "java/lang/invoke/MethodHandle" ∧ yX0_rest.cls ≠ "java/lang/invoke/VarHandle" ∧ (parseMethodDescriptor yX0_rest.desc).map (fun d => d.parameters.length) = some 0 := by decide +kernel
abbrev rm_X0_rest : Room := { frames := 0, cells := 0, slots := 0, locals := 0 }
def wp_X0_rest_2 (K : HF → Prop) (b : Nat) : Nat → HF → Int32 → Prop
  | 0 => fun _ _ => False
  | n_ + 1 => fun F v1 => (((8 : Int32) ≤ v1) → (K F)) ∧ ((¬ (8 : Int32) ≤ v1) → ((vp_in v1 8) ∧ (∀ F101 : HF, F101 = hup F (b + 2) v1.toNatClampNeg (0 : Int32) → (wp_X0_rest_2 K b  n_ F101 (v1 + (1))))))
set_option maxRecDepth 100000 in
set_option maxHeartbeats 4000000 in
theorem k_X0_rest_2 {p : Program} {l : Launch} {e : Env} {s : State} {m : MethodId} {args : Array Value} {below : List Frame} {meth : Method} {c : Code} {D : va_G} {dA : Nat → ClassId} {ad : Nat → Nat} {R : List Nat} {A : Nat → Prop} {K : HF → Prop} {b : Nat} (X : Cx p s m args meth c cX0_rest 2 RX0 D dA) (hA : ∀ q, s.heap.size ≤ q → A q) (hr : meth.sig.returnType = none) (hT : Br R b) : ∀ (n_ : Nat) (F : HF) (v1 : Int32), wp_X0_rest_2 K b n_ F v1 → J p l e rm_X0_rest s m args below meth c 2 D dA ad R A (QV D dA ad R A below args s K) F 2 [(0, .ref (ad b)), (1, .int v1)] [] := by
  intro n_
  induction n_ with
  | zero => intro F v1 h; exact h.elim
  | succ n_ ih =>
    intro F v1 h
    unfold wp_X0_rest_2 at h
    refine r_iload_n (pc := 2) X 1 dX0_rest_2 rfl rfl ?_
    refine r_bipush (pc := 3) (v := (8 : Int32)) X dX0_rest_3 (by decide) ?_
    refine r_icmp_ge (pc := 5) (tgt := 21) X dX0_rest_5 (by decide) (fun hc => ?_) (fun hc => ?_)
    · replace h := h.1 hc
      exact r_vret (pc := 21) X hr dX0_rest_21 h
    · replace h := h.2 hc
      refine r_aload_n (pc := 8) X 0 dX0_rest_8 rfl rfl ?_
      refine fg_X0_15 (pc := 9) X hT.1 dX0_rest_9 ?_
      refine r_iload_n (pc := 12) X 1 dX0_rest_12 rfl rfl ?_
      refine r_iconst (pc := 13) (v := (0 : Int32)) X dX0_rest_13 (by decide) ?_
      refine r_iast (pc := 14) X hT.2.2.1 h.1 dX0_rest_14 (fun F101 e1 => ?_)
      replace h := h.2 F101 e1
      refine r_iinc (pc := 15) (v := (v1 + (1))) X 1 [(1, .int (v1 + (1))), (0, .ref (ad b))] dX0_rest_15 rfl rfl (by decide) rfl ?_
      refine r_goto (pc := 18) (tgt := 2) X dX0_rest_18 (by decide) ?_
      refine r_sub [1, 0] rfl ?_
      exact ih _ _ h
def wp_X0_rest (K : HF → Prop) (F : HF) (b : Nat) : Prop := ∃ n_, wp_X0_rest_2 K b  n_ F (0 : Int32)
set_option maxRecDepth 100000 in
set_option maxHeartbeats 4000000 in
theorem c_X0_rest {l : Launch} {D : va_G} {dA : Nat → ClassId} {ad : Nat → Nat} {R : List Nat} {F : HF} {b : Nat} {K : HF → Prop} (hT : Br R b) (h : wp_X0_rest K F b) : MV l yX0_rest cX0_rest 2 rm_X0_rest D dA ad R F [.ref (ad b)] K := by
  refine MV.of (own := RX0) (by decide) rfl (Nat.le_of_ble_eq_true rfl) ?_
  intro p e s m args below meth c A hA X hr
  unfold wp_X0_rest at h
  show J p l e rm_X0_rest s m args below meth c 2 D dA ad R A (QV D dA ad R A below args s K) F 0 [(0, .ref (ad b))] []
  refine r_iconst (pc := 0) (v := (0 : Int32)) X dX0_rest_0 (by decide) ?_
  refine r_istore_n (pc := 1) X [(1, .int (0 : Int32)), (0, .ref (ad b))] dX0_rest_1 rfl (by decide) rfl ?_
  refine r_sub [1, 0] rfl ?_
  obtain ⟨n1, h⟩ := h
  exact k_X0_rest_2 X hA hr hT  n1 _ _ h
theorem dX0_clear_0 : decode cX0_clear 0 = .ok (.aload_n 0, 1) := by decide +kernel
theorem dX0_clear_1 : decode cX0_clear 1 = .ok (.iconst 0, 1) := by decide +kernel
theorem dX0_clear_2 : decode cX0_clear 2 = .ok (.putfield 21, 3) := by decide +kernel
theorem dX0_clear_5 : decode cX0_clear 5 = .ok (.aload_n 0, 1) := by decide +kernel
theorem dX0_clear_6 : decode cX0_clear 6 = .ok (.invokevirtual 29, 3) := by decide +kernel
theorem dX0_clear_9 : decode cX0_clear 9 = .ok (.return_, 1) := by decide +kernel
theorem hd_X0_clear : yX0_clear.cls = RX0 ∧ yX0_clear.cls ≠ "java/lang/invoke/MethodHandle" ∧ yX0_clear.cls ≠ "java/lang/invoke/VarHandle" ∧ (parseMethodDescriptor yX0_clear.desc).map (fun d => d.parameters.length) = some 0 := by decide +kernel
abbrev rm_X0_clear : Room := { frames := 1, cells := 0, slots := 0, locals := 21 }
def wp_X0_clear (K : HF → Prop) (F : HF) (b : Nat) : Prop := ∀ F1 : HF, F1 = hup F b 4 (0 : Int32) → (wp_X0_rest (fun F2 => K F2) F1 b)
set_option maxRecDepth 100000 in
set_option maxHeartbeats 4000000 in
theorem c_X0_clear {l : Launch} {D : va_G} {dA : Nat → ClassId} {ad : Nat → Nat} {R : List Nat} {F : HF} {b : Nat} {K : HF → Prop} (hT : Br R b) (h : wp_X0_clear K F b) : MV l yX0_clear cX0_clear 1 rm_X0_clear D dA ad R F [.ref (ad b)] K := by
  refine MV.of (own := RX0) (by decide) rfl (Nat.le_of_ble_eq_true rfl) ?_
  intro p e s m args below meth c A hA X hr
  unfold wp_X0_clear at h
  show J p l e rm_X0_clear s m args below meth c 1 D dA ad R A (QV D dA ad R A below args s K) F 0 [(0, .ref (ad b))] []
  refine r_aload_n (pc := 0) X 0 dX0_clear_0 rfl rfl ?_
  refine r_iconst (pc := 1) (v := (0 : Int32)) X dX0_clear_1 (by decide) ?_
  refine fp_X0_21 (pc := 2) X hT.1 dX0_clear_2 (fun F1 e1 => ?_)
  replace h := h F1 e1
  refine r_aload_n (pc := 5) X 0 dX0_clear_5 rfl rfl ?_
  refine r_callVV (pc := 6) (As := []) (st := []) X hA (c_X0_rest hT h) g_X0_29 cl_X0 hT.1 hd_X0_rest rfl rfl rfl ⟨Nat.le_of_ble_eq_true rfl, Nat.le_of_ble_eq_true rfl⟩ rfl (Nat.le_of_ble_eq_true rfl) dX0_clear_6 (fun F2 h => ?_)
  exact r_vret (pc := 9) X hr dX0_clear_9 h
theorem dX0_copyFrom_0 : decode cX0_copyFrom 0 = .ok (.aload_n 1, 1) := by decide +kernel
theorem dX0_copyFrom_1 : decode cX0_copyFrom 1 = .ok (.getfield 9, 3) := by decide +kernel
theorem dX0_copyFrom_4 : decode cX0_copyFrom 4 = .ok (.iconst 0, 1) := by decide +kernel
theorem dX0_copyFrom_5 : decode cX0_copyFrom 5 = .ok (.aload_n 0, 1) := by decide +kernel
theorem dX0_copyFrom_6 : decode cX0_copyFrom 6 = .ok (.getfield 9, 3) := by decide +kernel
theorem dX0_copyFrom_9 : decode cX0_copyFrom 9 = .ok (.iconst 0, 1) := by decide +kernel
theorem dX0_copyFrom_10 : decode cX0_copyFrom 10 = .ok (.bipush 8, 2) := by decide +kernel
theorem dX0_copyFrom_12 : decode cX0_copyFrom 12 = .ok (.invokestatic 32, 3) := by decide +kernel
theorem dX0_copyFrom_15 : decode cX0_copyFrom 15 = .ok (.aload_n 1, 1) := by decide +kernel
theorem dX0_copyFrom_16 : decode cX0_copyFrom 16 = .ok (.getfield 15, 3) := by decide +kernel
theorem dX0_copyFrom_19 : decode cX0_copyFrom 19 = .ok (.iconst 0, 1) := by decide +kernel
theorem dX0_copyFrom_20 : decode cX0_copyFrom 20 = .ok (.aload_n 0, 1) := by decide +kernel
theorem dX0_copyFrom_21 : decode cX0_copyFrom 21 = .ok (.getfield 15, 3) := by decide +kernel
theorem dX0_copyFrom_24 : decode cX0_copyFrom 24 = .ok (.iconst 0, 1) := by decide +kernel
theorem dX0_copyFrom_25 : decode cX0_copyFrom 25 = .ok (.bipush 8, 2) := by decide +kernel
theorem dX0_copyFrom_27 : decode cX0_copyFrom 27 = .ok (.invokestatic 32, 3) := by decide +kernel
theorem dX0_copyFrom_30 : decode cX0_copyFrom 30 = .ok (.aload_n 0, 1) := by decide +kernel
theorem dX0_copyFrom_31 : decode cX0_copyFrom 31 = .ok (.aload_n 1, 1) := by decide +kernel
theorem dX0_copyFrom_32 : decode cX0_copyFrom 32 = .ok (.getfield 21, 3) := by decide +kernel
theorem dX0_copyFrom_35 : decode cX0_copyFrom 35 = .ok (.putfield 21, 3) := by decide +kernel
theorem dX0_copyFrom_38 : decode cX0_copyFrom 38 = .ok (.return_, 1) := by decide +kernel
theorem hd_X0_copyFrom : yX0_copyFrom.cls = RX0 ∧ yX0_copyFrom.cls ≠ "java/lang/invoke/MethodHandle" ∧ yX0_copyFrom.cls ≠ "java/lang/invoke/VarHandle" ∧ (parseMethodDescriptor yX0_copyFrom.desc).map (fun d => d.parameters.length) = some 1 := by decide +kernel
abbrev rm_X0_copyFrom : Room := { frames := 1, cells := 0, slots := 0, locals := 48 }
def wp_X0_copyFrom (K : HF → Prop) (F : HF) (b : Nat) (r1 : Nat) : Prop := ∀ F1 : HF, F1 = hst F (b + 1) (va_cpy (F (r1 + 1)) (F (b + 1)) 0 0 8) → (∀ F2 : HF, F2 = hst F1 (b + 2) (va_cpy (F1 (r1 + 2)) (F1 (b + 2)) 0 0 8) → (∀ F3 : HF, F3 = hup F2 b 4 (F2 r1 4) → (K F3)))
set_option maxRecDepth 100000 in
set_option maxHeartbeats 4000000 in
theorem c_X0_copyFrom {l : Launch} {D : va_G} {dA : Nat → ClassId} {ad : Nat → Nat} {R : List Nat} {F : HF} {b : Nat} {r1 : Nat} {K : HF → Prop} (hT : Br R b) (hr1 : Br R r1) (h : wp_X0_copyFrom K F b r1) : MV l yX0_copyFrom cX0_copyFrom 2 rm_X0_copyFrom D dA ad R F [.ref (ad b), .ref (ad r1)] K := by
  refine MV.of (own := RX0) (by decide) rfl (Nat.le_of_ble_eq_true rfl) ?_
  intro p e s m args below meth c A hA X hr
  unfold wp_X0_copyFrom at h
  show J p l e rm_X0_copyFrom s m args below meth c 2 D dA ad R A (QV D dA ad R A below args s K) F 0 [(0, .ref (ad b)), (1, .ref (ad r1))] []
  refine r_aload_n (pc := 0) X 1 dX0_copyFrom_0 rfl rfl ?_
  refine fg_X0_9 (pc := 1) X hr1.1 dX0_copyFrom_1 ?_
  refine r_iconst (pc := 4) (v := (0 : Int32)) X dX0_copyFrom_4 (by decide) ?_
  refine r_aload_n (pc := 5) X 0 dX0_copyFrom_5 rfl rfl ?_
  refine fg_X0_9 (pc := 6) X hT.1 dX0_copyFrom_6 ?_
  refine r_iconst (pc := 9) (v := (0 : Int32)) X dX0_copyFrom_9 (by decide) ?_
  refine r_bipush (pc := 10) (v := (8 : Int32)) X dX0_copyFrom_10 (by decide) ?_
  refine r_copy (pc := 12) X w_496 w_394 w_393 w_65 hr1.2.1 hT.2.1 (by decide) (by decide) (by decide) (Nat.le_of_ble_eq_true rfl) (Nat.le_of_ble_eq_true rfl) dX0_copyFrom_12 (fun F1 e1 => ?_)
  replace h := h F1 e1
  refine r_aload_n (pc := 15) X 1 dX0_copyFrom_15 rfl rfl ?_
  refine fg_X0_15 (pc := 16) X hr1.1 dX0_copyFrom_16 ?_
  refine r_iconst (pc := 19) (v := (0 : Int32)) X dX0_copyFrom_19 (by decide) ?_
  refine r_aload_n (pc := 20) X 0 dX0_copyFrom_20 rfl rfl ?_
  refine fg_X0_15 (pc := 21) X hT.1 dX0_copyFrom_21 ?_
  refine r_iconst (pc := 24) (v := (0 : Int32)) X dX0_copyFrom_24 (by decide) ?_
  refine r_bipush (pc := 25) (v := (8 : Int32)) X dX0_copyFrom_25 (by decide) ?_
  refine r_copy (pc := 27) X w_496 w_394 w_393 w_65 hr1.2.2.1 hT.2.2.1 (by decide) (by decide) (by decide) (Nat.le_of_ble_eq_true rfl) (Nat.le_of_ble_eq_true rfl) dX0_copyFrom_27 (fun F2 e1 => ?_)
  replace h := h F2 e1
  refine r_aload_n (pc := 30) X 0 dX0_copyFrom_30 rfl rfl ?_
  refine r_aload_n (pc := 31) X 1 dX0_copyFrom_31 rfl rfl ?_
  refine fg_X0_21 (pc := 32) X hr1.1 dX0_copyFrom_32 ?_
  refine fp_X0_21 (pc := 35) X hT.1 dX0_copyFrom_35 (fun F3 e1 => ?_)
  replace h := h F3 e1
  exact r_vret (pc := 38) X hr dX0_copyFrom_38 h
theorem dX0_copyRested_0 : decode cX0_copyRested 0 = .ok (.aload_n 0, 1) := by decide +kernel
theorem dX0_copyRested_1 : decode cX0_copyRested 1 = .ok (.aload_n 1, 1) := by decide +kernel
theorem dX0_copyRested_2 : decode cX0_copyRested 2 = .ok (.invokevirtual 38, 3) := by decide +kernel
theorem dX0_copyRested_5 : decode cX0_copyRested 5 = .ok (.aload_n 0, 1) := by decide +kernel
theorem dX0_copyRested_6 : decode cX0_copyRested 6 = .ok (.invokevirtual 29, 3) := by decide +kernel
theorem dX0_copyRested_9 : decode cX0_copyRested 9 = .ok (.return_, 1) := by decide +kernel
theorem hd_X0_copyRested : yX0_copyRested.cls = RX0 ∧ yX0_copyRested.cls ≠ "java/lang/invoke/MethodHandle" ∧ yX0_copyRested.cls ≠ "java/lang/invoke/VarHandle" ∧ (parseMethodDescriptor yX0_copyRested.desc).map (fun d => d.parameters.length) = some 1 := by decide +kernel
abbrev rm_X0_copyRested : Room := { frames := 2, cells := 0, slots := 0, locals := 69 }
def wp_X0_copyRested (K : HF → Prop) (F : HF) (b : Nat) (r1 : Nat) : Prop := wp_X0_copyFrom (fun F1 => wp_X0_rest (fun F2 => K F2) F1 b) F b r1
set_option maxRecDepth 100000 in
set_option maxHeartbeats 4000000 in
theorem c_X0_copyRested {l : Launch} {D : va_G} {dA : Nat → ClassId} {ad : Nat → Nat} {R : List Nat} {F : HF} {b : Nat} {r1 : Nat} {K : HF → Prop} (hT : Br R b) (hr1 : Br R r1) (h : wp_X0_copyRested K F b r1) : MV l yX0_copyRested cX0_copyRested 2 rm_X0_copyRested D dA ad R F [.ref (ad b), .ref (ad r1)] K := by
  refine MV.of (own := RX0) (by decide) rfl (Nat.le_of_ble_eq_true rfl) ?_
  intro p e s m args below meth c A hA X hr
  unfold wp_X0_copyRested at h
  show J p l e rm_X0_copyRested s m args below meth c 2 D dA ad R A (QV D dA ad R A below args s K) F 0 [(0, .ref (ad b)), (1, .ref (ad r1))] []
  refine r_aload_n (pc := 0) X 0 dX0_copyRested_0 rfl rfl ?_
  refine r_aload_n (pc := 1) X 1 dX0_copyRested_1 rfl rfl ?_
  refine r_callVV (pc := 2) (As := [.ref (ad r1)]) (st := []) X hA (c_X0_copyFrom hT hr1 h) g_X0_38 cl_X0 hT.1 hd_X0_copyFrom rfl rfl rfl ⟨Nat.le_of_ble_eq_true rfl, Nat.le_of_ble_eq_true rfl⟩ rfl (Nat.le_of_ble_eq_true rfl) dX0_copyRested_2 (fun F1 h => ?_)
  refine r_aload_n (pc := 5) X 0 dX0_copyRested_5 rfl rfl ?_
  refine r_callVV (pc := 6) (As := []) (st := []) X hA (c_X0_rest hT h) g_X0_29 cl_X0 hT.1 hd_X0_rest rfl rfl rfl ⟨Nat.le_of_ble_eq_true rfl, Nat.le_of_ble_eq_true rfl⟩ rfl (Nat.le_of_ble_eq_true rfl) dX0_copyRested_6 (fun F2 h => ?_)
  exact r_vret (pc := 9) X hr dX0_copyRested_9 h
theorem dX0_size_0 : decode cX0_size 0 = .ok (.aload_n 0, 1) := by decide +kernel
theorem dX0_size_1 : decode cX0_size 1 = .ok (.getfield 21, 3) := by decide +kernel
theorem dX0_size_4 : decode cX0_size 4 = .ok (.ireturn, 1) := by decide +kernel
theorem hd_X0_size : yX0_size.cls = RX0 ∧ yX0_size.cls ≠ "java/lang/invoke/MethodHandle" ∧ yX0_size.cls ≠ "java/lang/invoke/VarHandle" ∧ (parseMethodDescriptor yX0_size.desc).map (fun d => d.parameters.length) = some 0 := by decide +kernel
abbrev rm_X0_size : Room := { frames := 0, cells := 0, slots := 0, locals := 0 }
def wp_X0_size (K : Int32 → HF → Prop) (F : HF) (b : Nat) : Prop := K (F b 4) F
set_option maxRecDepth 100000 in
set_option maxHeartbeats 4000000 in
theorem c_X0_size {l : Launch} {D : va_G} {dA : Nat → ClassId} {ad : Nat → Nat} {R : List Nat} {F : HF} {b : Nat} {K : Int32 → HF → Prop} (hT : Br R b) (h : wp_X0_size K F b) : MI l yX0_size cX0_size 1 .int rm_X0_size D dA ad R F [.ref (ad b)] K := by
  refine MI.of (own := RX0) (by decide) rfl (Nat.le_of_ble_eq_true rfl) ?_
  intro p e s m args below meth c A hA X hr
  unfold wp_X0_size at h
  show J p l e rm_X0_size s m args below meth c 1 D dA ad R A (QI D dA ad R A below args s K) F 0 [(0, .ref (ad b))] []
  refine r_aload_n (pc := 0) X 0 dX0_size_0 rfl rfl ?_
  refine fg_X0_21 (pc := 1) X hT.1 dX0_size_1 ?_
  exact r_iret (pc := 4) X hr dX0_size_4 h
theorem dX0_birdAt_0 : decode cX0_birdAt 0 = .ok (.iload_n 1, 1) := by decide +kernel
theorem dX0_birdAt_1 : decode cX0_birdAt 1 = .ok (.ifCond .lt 20, 3) := by decide +kernel
theorem dX0_birdAt_4 : decode cX0_birdAt 4 = .ok (.iload_n 1, 1) := by decide +kernel
theorem dX0_birdAt_5 : decode cX0_birdAt 5 = .ok (.aload_n 0, 1) := by decide +kernel
theorem dX0_birdAt_6 : decode cX0_birdAt 6 = .ok (.getfield 21, 3) := by decide +kernel
theorem dX0_birdAt_9 : decode cX0_birdAt 9 = .ok (.if_icmp .ge 12, 3) := by decide +kernel
theorem dX0_birdAt_12 : decode cX0_birdAt 12 = .ok (.aload_n 0, 1) := by decide +kernel
theorem dX0_birdAt_13 : decode cX0_birdAt 13 = .ok (.getfield 9, 3) := by decide +kernel
theorem dX0_birdAt_16 : decode cX0_birdAt 16 = .ok (.iload_n 1, 1) := by decide +kernel
theorem dX0_birdAt_17 : decode cX0_birdAt 17 = .ok (.iaload, 1) := by decide +kernel
theorem dX0_birdAt_18 : decode cX0_birdAt 18 = .ok (.goto 5, 3) := by decide +kernel
theorem dX0_birdAt_21 : decode cX0_birdAt 21 = .ok (.bipush (-4), 2) := by decide +kernel
theorem dX0_birdAt_23 : decode cX0_birdAt 23 = .ok (.ireturn, 1) := by decide +kernel
theorem hd_X0_birdAt : yX0_birdAt.cls = RX0 ∧ yX0_birdAt.cls ≠ "java/lang/invoke/MethodHandle" ∧ yX0_birdAt.cls ≠ "java/lang/invoke/VarHandle" ∧ (parseMethodDescriptor yX0_birdAt.desc).map (fun d => d.parameters.length) = some 1 := by decide +kernel
abbrev rm_X0_birdAt : Room := { frames := 0, cells := 0, slots := 0, locals := 0 }
def wp_X0_birdAt (K : Int32 → HF → Prop) (F : HF) (b : Nat) (a1 : Int32) : Prop := ((a1 < 0) → (K (-4 : Int32) F)) ∧ ((¬ a1 < 0) → ((((F b 4) ≤ a1) → (K (-4 : Int32) F)) ∧ ((¬ (F b 4) ≤ a1) → ((vp_in a1 8) ∧ (K (F (b + 1) a1.toNatClampNeg) F)))))
set_option maxRecDepth 100000 in
set_option maxHeartbeats 4000000 in
theorem c_X0_birdAt {l : Launch} {D : va_G} {dA : Nat → ClassId} {ad : Nat → Nat} {R : List Nat} {F : HF} {b : Nat} {a1 : Int32} {K : Int32 → HF → Prop} (hT : Br R b) (h : wp_X0_birdAt K F b a1) : MI l yX0_birdAt cX0_birdAt 2 .int rm_X0_birdAt D dA ad R F [.ref (ad b), .int a1] K := by
  refine MI.of (own := RX0) (by decide) rfl (Nat.le_of_ble_eq_true rfl) ?_
  intro p e s m args below meth c A hA X hr
  unfold wp_X0_birdAt at h
  show J p l e rm_X0_birdAt s m args below meth c 2 D dA ad R A (QI D dA ad R A below args s K) F 0 [(0, .ref (ad b)), (1, .int a1)] []
  refine r_iload_n (pc := 0) X 1 dX0_birdAt_0 rfl rfl ?_
  refine r_if_lt (pc := 1) (tgt := 21) X dX0_birdAt_1 (by decide) (fun hc => ?_) (fun hc => ?_)
  · replace h := h.1 hc
    refine r_bipush (pc := 21) (v := (-4 : Int32)) X dX0_birdAt_21 (by decide) ?_
    exact r_iret (pc := 23) X hr dX0_birdAt_23 h
  · replace h := h.2 hc
    refine r_iload_n (pc := 4) X 1 dX0_birdAt_4 rfl rfl ?_
    refine r_aload_n (pc := 5) X 0 dX0_birdAt_5 rfl rfl ?_
    refine fg_X0_21 (pc := 6) X hT.1 dX0_birdAt_6 ?_
    refine r_icmp_ge (pc := 9) (tgt := 21) X dX0_birdAt_9 (by decide) (fun hc => ?_) (fun hc => ?_)
    · replace h := h.1 hc
      refine r_bipush (pc := 21) (v := (-4 : Int32)) X dX0_birdAt_21 (by decide) ?_
      exact r_iret (pc := 23) X hr dX0_birdAt_23 h
    · replace h := h.2 hc
      refine r_aload_n (pc := 12) X 0 dX0_birdAt_12 rfl rfl ?_
      refine fg_X0_9 (pc := 13) X hT.1 dX0_birdAt_13 ?_
      refine r_iload_n (pc := 16) X 1 dX0_birdAt_16 rfl rfl ?_
      refine r_iald (pc := 17) X hT.2.1 h.1 dX0_birdAt_17 ?_
      replace h := h.2
      refine r_goto (pc := 18) (tgt := 23) X dX0_birdAt_18 (by decide) ?_
      exact r_iret (pc := 23) X hr dX0_birdAt_23 h
theorem dX0_kindAt_0 : decode cX0_kindAt 0 = .ok (.iload_n 1, 1) := by decide +kernel
theorem dX0_kindAt_1 : decode cX0_kindAt 1 = .ok (.ifCond .lt 27, 3) := by decide +kernel
theorem dX0_kindAt_4 : decode cX0_kindAt 4 = .ok (.iload_n 1, 1) := by decide +kernel
theorem dX0_kindAt_5 : decode cX0_kindAt 5 = .ok (.aload_n 0, 1) := by decide +kernel
theorem dX0_kindAt_6 : decode cX0_kindAt 6 = .ok (.getfield 21, 3) := by decide +kernel
theorem dX0_kindAt_9 : decode cX0_kindAt 9 = .ok (.if_icmp .ge 19, 3) := by decide +kernel
theorem dX0_kindAt_12 : decode cX0_kindAt 12 = .ok (.aload_n 0, 1) := by decide +kernel
theorem dX0_kindAt_13 : decode cX0_kindAt 13 = .ok (.getfield 25, 3) := by decide +kernel
theorem dX0_kindAt_16 : decode cX0_kindAt 16 = .ok (.aload_n 0, 1) := by decide +kernel
theorem dX0_kindAt_17 : decode cX0_kindAt 17 = .ok (.getfield 9, 3) := by decide +kernel
theorem dX0_kindAt_20 : decode cX0_kindAt 20 = .ok (.iload_n 1, 1) := by decide +kernel
theorem dX0_kindAt_21 : decode cX0_kindAt 21 = .ok (.iaload, 1) := by decide +kernel
theorem dX0_kindAt_22 : decode cX0_kindAt 22 = .ok (.invokevirtual 42, 3) := by decide +kernel
theorem dX0_kindAt_25 : decode cX0_kindAt 25 = .ok (.goto 5, 3) := by decide +kernel
theorem dX0_kindAt_28 : decode cX0_kindAt 28 = .ok (.bipush (-4), 2) := by decide +kernel
theorem dX0_kindAt_30 : decode cX0_kindAt 30 = .ok (.ireturn, 1) := by decide +kernel
theorem hd_X0_kindAt : yX0_kindAt.cls = RX0 ∧ yX0_kindAt.cls ≠ "java/lang/invoke/MethodHandle" ∧ yX0_kindAt.cls ≠ "java/lang/invoke/VarHandle" ∧ (parseMethodDescriptor yX0_kindAt.desc).map (fun d => d.parameters.length) = some 1 := by decide +kernel
abbrev rm_X0_kindAt : Room := { frames := 1, cells := 0, slots := 0, locals := 21 }
def wp_X0_kindAt (K : Int32 → HF → Prop) (F : HF) (b : Nat) (a1 : Int32) : Prop := ((a1 < 0) → (K (-4 : Int32) F)) ∧ ((¬ a1 < 0) → ((((F b 4) ≤ a1) → (K (-4 : Int32) F)) ∧ ((¬ (F b 4) ≤ a1) → ((vp_in a1 8) ∧ (wp_X1_kindOf (fun x1 F1 => K x1 F1) F 4 (F (b + 1) a1.toNatClampNeg))))))
set_option maxRecDepth 100000 in
set_option maxHeartbeats 4000000 in
theorem c_X0_kindAt {l : Launch} {D : va_G} {dA : Nat → ClassId} {ad : Nat → Nat} {R : List Nat} {F : HF} {b : Nat} {a1 : Int32} {K : Int32 → HF → Prop} (hT : Br R b) (h : wp_X0_kindAt K F b a1) : MI l yX0_kindAt cX0_kindAt 2 .int rm_X0_kindAt D dA ad R F [.ref (ad b), .int a1] K := by
  refine MI.of (own := RX0) (by decide) rfl (Nat.le_of_ble_eq_true rfl) ?_
  intro p e s m args below meth c A hA X hr
  unfold wp_X0_kindAt at h
  show J p l e rm_X0_kindAt s m args below meth c 2 D dA ad R A (QI D dA ad R A below args s K) F 0 [(0, .ref (ad b)), (1, .int a1)] []
  refine r_iload_n (pc := 0) X 1 dX0_kindAt_0 rfl rfl ?_
  refine r_if_lt (pc := 1) (tgt := 28) X dX0_kindAt_1 (by decide) (fun hc => ?_) (fun hc => ?_)
  · replace h := h.1 hc
    refine r_bipush (pc := 28) (v := (-4 : Int32)) X dX0_kindAt_28 (by decide) ?_
    exact r_iret (pc := 30) X hr dX0_kindAt_30 h
  · replace h := h.2 hc
    refine r_iload_n (pc := 4) X 1 dX0_kindAt_4 rfl rfl ?_
    refine r_aload_n (pc := 5) X 0 dX0_kindAt_5 rfl rfl ?_
    refine fg_X0_21 (pc := 6) X hT.1 dX0_kindAt_6 ?_
    refine r_icmp_ge (pc := 9) (tgt := 28) X dX0_kindAt_9 (by decide) (fun hc => ?_) (fun hc => ?_)
    · replace h := h.1 hc
      refine r_bipush (pc := 28) (v := (-4 : Int32)) X dX0_kindAt_28 (by decide) ?_
      exact r_iret (pc := 30) X hr dX0_kindAt_30 h
    · replace h := h.2 hc
      refine r_aload_n (pc := 12) X 0 dX0_kindAt_12 rfl rfl ?_
      refine fg_X0_25 (pc := 13) X hT.1 dX0_kindAt_13 ?_
      refine r_aload_n (pc := 16) X 0 dX0_kindAt_16 rfl rfl ?_
      refine fg_X0_9 (pc := 17) X hT.1 dX0_kindAt_17 ?_
      refine r_iload_n (pc := 20) X 1 dX0_kindAt_20 rfl rfl ?_
      refine r_iald (pc := 21) X hT.2.1 h.1 dX0_kindAt_21 ?_
      replace h := h.2
      refine r_callIV (pc := 22) (As := [.int (F (b + 1) a1.toNatClampNeg)]) (st := []) X hA (c_X1_kindOf hT.2.2.2.2 h) g_X0_42 cl_X1 hT.2.2.2.2.1 hd_X1_kindOf rfl rfl rfl ⟨Nat.le_of_ble_eq_true rfl, Nat.le_of_ble_eq_true rfl⟩ rfl (Nat.le_of_ble_eq_true rfl) dX0_kindAt_22 (fun x1 F1 h => ?_)
      refine r_goto (pc := 25) (tgt := 30) X dX0_kindAt_25 (by decide) ?_
      exact r_iret (pc := 30) X hr dX0_kindAt_30 h
theorem dX0_borneAt_0 : decode cX0_borneAt 0 = .ok (.iload_n 1, 1) := by decide +kernel
theorem dX0_borneAt_1 : decode cX0_borneAt 1 = .ok (.ifCond .lt 20, 3) := by decide +kernel
theorem dX0_borneAt_4 : decode cX0_borneAt 4 = .ok (.iload_n 1, 1) := by decide +kernel
theorem dX0_borneAt_5 : decode cX0_borneAt 5 = .ok (.aload_n 0, 1) := by decide +kernel
theorem dX0_borneAt_6 : decode cX0_borneAt 6 = .ok (.getfield 21, 3) := by decide +kernel
theorem dX0_borneAt_9 : decode cX0_borneAt 9 = .ok (.if_icmp .ge 12, 3) := by decide +kernel
theorem dX0_borneAt_12 : decode cX0_borneAt 12 = .ok (.aload_n 0, 1) := by decide +kernel
theorem dX0_borneAt_13 : decode cX0_borneAt 13 = .ok (.getfield 18, 3) := by decide +kernel
theorem dX0_borneAt_16 : decode cX0_borneAt 16 = .ok (.iload_n 1, 1) := by decide +kernel
theorem dX0_borneAt_17 : decode cX0_borneAt 17 = .ok (.iaload, 1) := by decide +kernel
theorem dX0_borneAt_18 : decode cX0_borneAt 18 = .ok (.goto 4, 3) := by decide +kernel
theorem dX0_borneAt_21 : decode cX0_borneAt 21 = .ok (.iconst 0, 1) := by decide +kernel
theorem dX0_borneAt_22 : decode cX0_borneAt 22 = .ok (.ireturn, 1) := by decide +kernel
theorem hd_X0_borneAt : yX0_borneAt.cls = RX0 ∧ yX0_borneAt.cls ≠ "java/lang/invoke/MethodHandle" ∧ yX0_borneAt.cls ≠ "java/lang/invoke/VarHandle" ∧ (parseMethodDescriptor yX0_borneAt.desc).map (fun d => d.parameters.length) = some 1 := by decide +kernel
abbrev rm_X0_borneAt : Room := { frames := 0, cells := 0, slots := 0, locals := 0 }
def wp_X0_borneAt (K : Int32 → HF → Prop) (F : HF) (b : Nat) (a1 : Int32) : Prop := ((a1 < 0) → (K (0 : Int32) F)) ∧ ((¬ a1 < 0) → ((((F b 4) ≤ a1) → (K (0 : Int32) F)) ∧ ((¬ (F b 4) ≤ a1) → ((vp_in a1 8) ∧ (K (F (b + 3) a1.toNatClampNeg) F)))))
set_option maxRecDepth 100000 in
set_option maxHeartbeats 4000000 in
theorem c_X0_borneAt {l : Launch} {D : va_G} {dA : Nat → ClassId} {ad : Nat → Nat} {R : List Nat} {F : HF} {b : Nat} {a1 : Int32} {K : Int32 → HF → Prop} (hT : Br R b) (h : wp_X0_borneAt K F b a1) : MI l yX0_borneAt cX0_borneAt 2 .int rm_X0_borneAt D dA ad R F [.ref (ad b), .int a1] K := by
  refine MI.of (own := RX0) (by decide) rfl (Nat.le_of_ble_eq_true rfl) ?_
  intro p e s m args below meth c A hA X hr
  unfold wp_X0_borneAt at h
  show J p l e rm_X0_borneAt s m args below meth c 2 D dA ad R A (QI D dA ad R A below args s K) F 0 [(0, .ref (ad b)), (1, .int a1)] []
  refine r_iload_n (pc := 0) X 1 dX0_borneAt_0 rfl rfl ?_
  refine r_if_lt (pc := 1) (tgt := 21) X dX0_borneAt_1 (by decide) (fun hc => ?_) (fun hc => ?_)
  · replace h := h.1 hc
    refine r_iconst (pc := 21) (v := (0 : Int32)) X dX0_borneAt_21 (by decide) ?_
    exact r_iret (pc := 22) X hr dX0_borneAt_22 h
  · replace h := h.2 hc
    refine r_iload_n (pc := 4) X 1 dX0_borneAt_4 rfl rfl ?_
    refine r_aload_n (pc := 5) X 0 dX0_borneAt_5 rfl rfl ?_
    refine fg_X0_21 (pc := 6) X hT.1 dX0_borneAt_6 ?_
    refine r_icmp_ge (pc := 9) (tgt := 21) X dX0_borneAt_9 (by decide) (fun hc => ?_) (fun hc => ?_)
    · replace h := h.1 hc
      refine r_iconst (pc := 21) (v := (0 : Int32)) X dX0_borneAt_21 (by decide) ?_
      exact r_iret (pc := 22) X hr dX0_borneAt_22 h
    · replace h := h.2 hc
      refine r_aload_n (pc := 12) X 0 dX0_borneAt_12 rfl rfl ?_
      refine fg_X0_18 (pc := 13) X hT.1 dX0_borneAt_13 ?_
      refine r_iload_n (pc := 16) X 1 dX0_borneAt_16 rfl rfl ?_
      refine r_iald (pc := 17) X hT.2.2.2.1 h.1 dX0_borneAt_17 ?_
      replace h := h.2
      refine r_goto (pc := 18) (tgt := 22) X dX0_borneAt_18 (by decide) ?_
      exact r_iret (pc := 22) X hr dX0_borneAt_22 h
theorem dX0_tiredOf_0 : decode cX0_tiredOf 0 = .ok (.iload_n 1, 1) := by decide +kernel
theorem dX0_tiredOf_1 : decode cX0_tiredOf 1 = .ok (.ifCond .lt 18, 3) := by decide +kernel
theorem dX0_tiredOf_4 : decode cX0_tiredOf 4 = .ok (.iload_n 1, 1) := by decide +kernel
theorem dX0_tiredOf_5 : decode cX0_tiredOf 5 = .ok (.bipush 8, 2) := by decide +kernel
theorem dX0_tiredOf_7 : decode cX0_tiredOf 7 = .ok (.if_icmp .ge 12, 3) := by decide +kernel
theorem dX0_tiredOf_10 : decode cX0_tiredOf 10 = .ok (.aload_n 0, 1) := by decide +kernel
theorem dX0_tiredOf_11 : decode cX0_tiredOf 11 = .ok (.getfield 15, 3) := by decide +kernel
theorem dX0_tiredOf_14 : decode cX0_tiredOf 14 = .ok (.iload_n 1, 1) := by decide +kernel
theorem dX0_tiredOf_15 : decode cX0_tiredOf 15 = .ok (.iaload, 1) := by decide +kernel
theorem dX0_tiredOf_16 : decode cX0_tiredOf 16 = .ok (.goto 4, 3) := by decide +kernel
theorem dX0_tiredOf_19 : decode cX0_tiredOf 19 = .ok (.iconst 0, 1) := by decide +kernel
theorem dX0_tiredOf_20 : decode cX0_tiredOf 20 = .ok (.ireturn, 1) := by decide +kernel
theorem hd_X0_tiredOf : yX0_tiredOf.cls = RX0 ∧ yX0_tiredOf.cls ≠ "java/lang/invoke/MethodHandle" ∧ yX0_tiredOf.cls ≠ "java/lang/invoke/VarHandle" ∧ (parseMethodDescriptor yX0_tiredOf.desc).map (fun d => d.parameters.length) = some 1 := by decide +kernel
abbrev rm_X0_tiredOf : Room := { frames := 0, cells := 0, slots := 0, locals := 0 }
def wp_X0_tiredOf (K : Int32 → HF → Prop) (F : HF) (b : Nat) (a1 : Int32) : Prop := ((a1 < 0) → (K (0 : Int32) F)) ∧ ((¬ a1 < 0) → ((((8 : Int32) ≤ a1) → (K (0 : Int32) F)) ∧ ((¬ (8 : Int32) ≤ a1) → ((vp_in a1 8) ∧ (K (F (b + 2) a1.toNatClampNeg) F)))))
set_option maxRecDepth 100000 in
set_option maxHeartbeats 4000000 in
theorem c_X0_tiredOf {l : Launch} {D : va_G} {dA : Nat → ClassId} {ad : Nat → Nat} {R : List Nat} {F : HF} {b : Nat} {a1 : Int32} {K : Int32 → HF → Prop} (hT : Br R b) (h : wp_X0_tiredOf K F b a1) : MI l yX0_tiredOf cX0_tiredOf 2 .int rm_X0_tiredOf D dA ad R F [.ref (ad b), .int a1] K := by
  refine MI.of (own := RX0) (by decide) rfl (Nat.le_of_ble_eq_true rfl) ?_
  intro p e s m args below meth c A hA X hr
  unfold wp_X0_tiredOf at h
  show J p l e rm_X0_tiredOf s m args below meth c 2 D dA ad R A (QI D dA ad R A below args s K) F 0 [(0, .ref (ad b)), (1, .int a1)] []
  refine r_iload_n (pc := 0) X 1 dX0_tiredOf_0 rfl rfl ?_
  refine r_if_lt (pc := 1) (tgt := 19) X dX0_tiredOf_1 (by decide) (fun hc => ?_) (fun hc => ?_)
  · replace h := h.1 hc
    refine r_iconst (pc := 19) (v := (0 : Int32)) X dX0_tiredOf_19 (by decide) ?_
    exact r_iret (pc := 20) X hr dX0_tiredOf_20 h
  · replace h := h.2 hc
    refine r_iload_n (pc := 4) X 1 dX0_tiredOf_4 rfl rfl ?_
    refine r_bipush (pc := 5) (v := (8 : Int32)) X dX0_tiredOf_5 (by decide) ?_
    refine r_icmp_ge (pc := 7) (tgt := 19) X dX0_tiredOf_7 (by decide) (fun hc => ?_) (fun hc => ?_)
    · replace h := h.1 hc
      refine r_iconst (pc := 19) (v := (0 : Int32)) X dX0_tiredOf_19 (by decide) ?_
      exact r_iret (pc := 20) X hr dX0_tiredOf_20 h
    · replace h := h.2 hc
      refine r_aload_n (pc := 10) X 0 dX0_tiredOf_10 rfl rfl ?_
      refine fg_X0_15 (pc := 11) X hT.1 dX0_tiredOf_11 ?_
      refine r_iload_n (pc := 14) X 1 dX0_tiredOf_14 rfl rfl ?_
      refine r_iald (pc := 15) X hT.2.2.1 h.1 dX0_tiredOf_15 ?_
      replace h := h.2
      refine r_goto (pc := 16) (tgt := 20) X dX0_tiredOf_16 (by decide) ?_
      exact r_iret (pc := 20) X hr dX0_tiredOf_20 h
theorem dX0_positionOf_0 : decode cX0_positionOf 0 = .ok (.iconst 0, 1) := by decide +kernel
theorem dX0_positionOf_1 : decode cX0_positionOf 1 = .ok (.istore_n 2, 1) := by decide +kernel
theorem dX0_positionOf_2 : decode cX0_positionOf 2 = .ok (.iload_n 2, 1) := by decide +kernel
theorem dX0_positionOf_3 : decode cX0_positionOf 3 = .ok (.aload_n 0, 1) := by decide +kernel
theorem dX0_positionOf_4 : decode cX0_positionOf 4 = .ok (.getfield 21, 3) := by decide +kernel
theorem dX0_positionOf_7 : decode cX0_positionOf 7 = .ok (.if_icmp .ge 21, 3) := by decide +kernel
theorem dX0_positionOf_10 : decode cX0_positionOf 10 = .ok (.aload_n 0, 1) := by decide +kernel
theorem dX0_positionOf_11 : decode cX0_positionOf 11 = .ok (.getfield 9, 3) := by decide +kernel
theorem dX0_positionOf_14 : decode cX0_positionOf 14 = .ok (.iload_n 2, 1) := by decide +kernel
theorem dX0_positionOf_15 : decode cX0_positionOf 15 = .ok (.iaload, 1) := by decide +kernel
theorem dX0_positionOf_16 : decode cX0_positionOf 16 = .ok (.iload_n 1, 1) := by decide +kernel
theorem dX0_positionOf_17 : decode cX0_positionOf 17 = .ok (.if_icmp .ne 5, 3) := by decide +kernel
theorem dX0_positionOf_20 : decode cX0_positionOf 20 = .ok (.iload_n 2, 1) := by decide +kernel
theorem dX0_positionOf_21 : decode cX0_positionOf 21 = .ok (.ireturn, 1) := by decide +kernel
theorem dX0_positionOf_22 : decode cX0_positionOf 22 = .ok (.iinc 2 1, 3) := by decide +kernel
theorem dX0_positionOf_25 : decode cX0_positionOf 25 = .ok (.goto (-23), 3) := by decide +kernel
theorem dX0_positionOf_28 : decode cX0_positionOf 28 = .ok (.bipush (-4), 2) := by decide +kernel
theorem dX0_positionOf_30 : decode cX0_positionOf 30 = .ok (.ireturn, 1) := by decide +kernel
theorem hd_X0_positionOf : yX0_positionOf.cls = RX0 ∧ yX0_positionOf.cls ≠ "java/lang/invoke/MethodHandle" ∧ yX0_positionOf.cls ≠ "java/lang/invoke/VarHandle" ∧ (parseMethodDescriptor yX0_positionOf.desc).map (fun d => d.parameters.length) = some 1 := by decide +kernel
abbrev rm_X0_positionOf : Room := { frames := 0, cells := 0, slots := 0, locals := 0 }
def wp_X0_positionOf_2 (K : Int32 → HF → Prop) (b : Nat) : Nat → HF → Int32 → Int32 → Prop
  | 0 => fun _ _ _ => False
  | n_ + 1 => fun F v1 v2 => (((F b 4) ≤ v2) → (K (-4 : Int32) F)) ∧ ((¬ (F b 4) ≤ v2) → ((vp_in v2 8) ∧ (((¬ (F (b + 1) v2.toNatClampNeg) = v1) → (wp_X0_positionOf_2 K b  n_ F v1 (v2 + (1)))) ∧ (((F (b + 1) v2.toNatClampNeg) = v1) → (K v2 F)))))
set_option maxRecDepth 100000 in
set_option maxHeartbeats 4000000 in
theorem k_X0_positionOf_2 {p : Program} {l : Launch} {e : Env} {s : State} {m : MethodId} {args : Array Value} {below : List Frame} {meth : Method} {c : Code} {D : va_G} {dA : Nat → ClassId} {ad : Nat → Nat} {R : List Nat} {A : Nat → Prop} {K : Int32 → HF → Prop} {b : Nat} (X : Cx p s m args meth c cX0_positionOf 3 RX0 D dA) (hA : ∀ q, s.heap.size ≤ q → A q) (hr : meth.sig.returnType = some .int) (hT : Br R b) : ∀ (n_ : Nat) (F : HF) (v1 : Int32) (v2 : Int32), wp_X0_positionOf_2 K b n_ F v1 v2 → J p l e rm_X0_positionOf s m args below meth c 3 D dA ad R A (QI D dA ad R A below args s K) F 2 [(0, .ref (ad b)), (1, .int v1), (2, .int v2)] [] := by
  intro n_
  induction n_ with
  | zero => intro F v1 v2 h; exact h.elim
  | succ n_ ih =>
    intro F v1 v2 h
    unfold wp_X0_positionOf_2 at h
    refine r_iload_n (pc := 2) X 2 dX0_positionOf_2 rfl rfl ?_
    refine r_aload_n (pc := 3) X 0 dX0_positionOf_3 rfl rfl ?_
    refine fg_X0_21 (pc := 4) X hT.1 dX0_positionOf_4 ?_
    refine r_icmp_ge (pc := 7) (tgt := 28) X dX0_positionOf_7 (by decide) (fun hc => ?_) (fun hc => ?_)
    · replace h := h.1 hc
      refine r_bipush (pc := 28) (v := (-4 : Int32)) X dX0_positionOf_28 (by decide) ?_
      exact r_iret (pc := 30) X hr dX0_positionOf_30 h
    · replace h := h.2 hc
      refine r_aload_n (pc := 10) X 0 dX0_positionOf_10 rfl rfl ?_
      refine fg_X0_9 (pc := 11) X hT.1 dX0_positionOf_11 ?_
      refine r_iload_n (pc := 14) X 2 dX0_positionOf_14 rfl rfl ?_
      refine r_iald (pc := 15) X hT.2.1 h.1 dX0_positionOf_15 ?_
      replace h := h.2
      refine r_iload_n (pc := 16) X 1 dX0_positionOf_16 rfl rfl ?_
      refine r_icmp_ne (pc := 17) (tgt := 22) X dX0_positionOf_17 (by decide) (fun hc => ?_) (fun hc => ?_)
      · replace h := h.1 hc
        refine r_iinc (pc := 22) (v := (v2 + (1))) X 2 [(2, .int (v2 + (1))), (0, .ref (ad b)), (1, .int v1)] dX0_positionOf_22 rfl rfl (by decide) rfl ?_
        refine r_goto (pc := 25) (tgt := 2) X dX0_positionOf_25 (by decide) ?_
        refine r_sub [1, 2, 0] rfl ?_
        exact ih _ _ _ h
      · replace h := h.2 hc
        refine r_iload_n (pc := 20) X 2 dX0_positionOf_20 rfl rfl ?_
        exact r_iret (pc := 21) X hr dX0_positionOf_21 h
def wp_X0_positionOf (K : Int32 → HF → Prop) (F : HF) (b : Nat) (a1 : Int32) : Prop := ∃ n_, wp_X0_positionOf_2 K b  n_ F a1 (0 : Int32)
set_option maxRecDepth 100000 in
set_option maxHeartbeats 4000000 in
theorem c_X0_positionOf {l : Launch} {D : va_G} {dA : Nat → ClassId} {ad : Nat → Nat} {R : List Nat} {F : HF} {b : Nat} {a1 : Int32} {K : Int32 → HF → Prop} (hT : Br R b) (h : wp_X0_positionOf K F b a1) : MI l yX0_positionOf cX0_positionOf 3 .int rm_X0_positionOf D dA ad R F [.ref (ad b), .int a1] K := by
  refine MI.of (own := RX0) (by decide) rfl (Nat.le_of_ble_eq_true rfl) ?_
  intro p e s m args below meth c A hA X hr
  unfold wp_X0_positionOf at h
  show J p l e rm_X0_positionOf s m args below meth c 3 D dA ad R A (QI D dA ad R A below args s K) F 0 [(0, .ref (ad b)), (1, .int a1)] []
  refine r_iconst (pc := 0) (v := (0 : Int32)) X dX0_positionOf_0 (by decide) ?_
  refine r_istore_n (pc := 1) X [(2, .int (0 : Int32)), (0, .ref (ad b)), (1, .int a1)] dX0_positionOf_1 rfl (by decide) rfl ?_
  refine r_sub [1, 2, 0] rfl ?_
  obtain ⟨n1, h⟩ := h
  exact k_X0_positionOf_2 X hA hr hT  n1 _ _ _ h
theorem dX0_firstPlaceOf_0 : decode cX0_firstPlaceOf 0 = .ok (.iconst 0, 1) := by decide +kernel
theorem dX0_firstPlaceOf_1 : decode cX0_firstPlaceOf 1 = .ok (.istore_n 2, 1) := by decide +kernel
theorem dX0_firstPlaceOf_2 : decode cX0_firstPlaceOf 2 = .ok (.iconst 0, 1) := by decide +kernel
theorem dX0_firstPlaceOf_3 : decode cX0_firstPlaceOf 3 = .ok (.istore_n 3, 1) := by decide +kernel
theorem dX0_firstPlaceOf_4 : decode cX0_firstPlaceOf 4 = .ok (.iload_n 3, 1) := by decide +kernel
theorem dX0_firstPlaceOf_5 : decode cX0_firstPlaceOf 5 = .ok (.iload_n 1, 1) := by decide +kernel
theorem dX0_firstPlaceOf_6 : decode cX0_firstPlaceOf 6 = .ok (.if_icmp .ge 33, 3) := by decide +kernel
theorem dX0_firstPlaceOf_9 : decode cX0_firstPlaceOf 9 = .ok (.iload_n 3, 1) := by decide +kernel
theorem dX0_firstPlaceOf_10 : decode cX0_firstPlaceOf 10 = .ok (.aload_n 0, 1) := by decide +kernel
theorem dX0_firstPlaceOf_11 : decode cX0_firstPlaceOf 11 = .ok (.getfield 21, 3) := by decide +kernel
theorem dX0_firstPlaceOf_14 : decode cX0_firstPlaceOf 14 = .ok (.if_icmp .ge 25, 3) := by decide +kernel
theorem dX0_firstPlaceOf_17 : decode cX0_firstPlaceOf 17 = .ok (.iload_n 2, 1) := by decide +kernel
theorem dX0_firstPlaceOf_18 : decode cX0_firstPlaceOf 18 = .ok (.aload_n 0, 1) := by decide +kernel
theorem dX0_firstPlaceOf_19 : decode cX0_firstPlaceOf 19 = .ok (.getfield 25, 3) := by decide +kernel
theorem dX0_firstPlaceOf_22 : decode cX0_firstPlaceOf 22 = .ok (.aload_n 0, 1) := by decide +kernel
theorem dX0_firstPlaceOf_23 : decode cX0_firstPlaceOf 23 = .ok (.getfield 9, 3) := by decide +kernel
theorem dX0_firstPlaceOf_26 : decode cX0_firstPlaceOf 26 = .ok (.iload_n 3, 1) := by decide +kernel
theorem dX0_firstPlaceOf_27 : decode cX0_firstPlaceOf 27 = .ok (.iaload, 1) := by decide +kernel
theorem dX0_firstPlaceOf_28 : decode cX0_firstPlaceOf 28 = .ok (.invokevirtual 48, 3) := by decide +kernel
theorem dX0_firstPlaceOf_31 : decode cX0_firstPlaceOf 31 = .ok (.iadd, 1) := by decide +kernel
theorem dX0_firstPlaceOf_32 : decode cX0_firstPlaceOf 32 = .ok (.istore_n 2, 1) := by decide +kernel
theorem dX0_firstPlaceOf_33 : decode cX0_firstPlaceOf 33 = .ok (.iinc 3 1, 3) := by decide +kernel
theorem dX0_firstPlaceOf_36 : decode cX0_firstPlaceOf 36 = .ok (.goto (-32), 3) := by decide +kernel
theorem dX0_firstPlaceOf_39 : decode cX0_firstPlaceOf 39 = .ok (.iload_n 2, 1) := by decide +kernel
theorem dX0_firstPlaceOf_40 : decode cX0_firstPlaceOf 40 = .ok (.ireturn, 1) := by decide +kernel
theorem hd_X0_firstPlaceOf : yX0_firstPlaceOf.cls = RX0 ∧ yX0_firstPlaceOf.cls ≠ "java/lang/invoke/MethodHandle" ∧ yX0_firstPlaceOf.cls ≠ "java/lang/invoke/VarHandle" ∧ (parseMethodDescriptor yX0_firstPlaceOf.desc).map (fun d => d.parameters.length) = some 1 := by decide +kernel
abbrev rm_X0_firstPlaceOf : Room := { frames := 1, cells := 0, slots := 0, locals := 21 }
def wp_X0_firstPlaceOf_4 (K : Int32 → HF → Prop) (b : Nat) : Nat → HF → Int32 → Int32 → Int32 → Prop
  | 0 => fun _ _ _ _ => False
  | n_ + 1 => fun F v1 v2 v3 => ((v1 ≤ v3) → (K v2 F)) ∧ ((¬ v1 ≤ v3) → ((((F b 4) ≤ v3) → (K v2 F)) ∧ ((¬ (F b 4) ≤ v3) → ((vp_in v3 8) ∧ (wp_X1_lengthOf (fun x1 F101 => wp_X0_firstPlaceOf_4 K b  n_ F101 v1 (v2 + x1) (v3 + (1))) F 4 (F (b + 1) v3.toNatClampNeg))))))
set_option maxRecDepth 100000 in
set_option maxHeartbeats 4000000 in
theorem k_X0_firstPlaceOf_4 {p : Program} {l : Launch} {e : Env} {s : State} {m : MethodId} {args : Array Value} {below : List Frame} {meth : Method} {c : Code} {D : va_G} {dA : Nat → ClassId} {ad : Nat → Nat} {R : List Nat} {A : Nat → Prop} {K : Int32 → HF → Prop} {b : Nat} (X : Cx p s m args meth c cX0_firstPlaceOf 4 RX0 D dA) (hA : ∀ q, s.heap.size ≤ q → A q) (hr : meth.sig.returnType = some .int) (hT : Br R b) : ∀ (n_ : Nat) (F : HF) (v1 : Int32) (v2 : Int32) (v3 : Int32), wp_X0_firstPlaceOf_4 K b n_ F v1 v2 v3 → J p l e rm_X0_firstPlaceOf s m args below meth c 4 D dA ad R A (QI D dA ad R A below args s K) F 4 [(0, .ref (ad b)), (1, .int v1), (2, .int v2), (3, .int v3)] [] := by
  intro n_
  induction n_ with
  | zero => intro F v1 v2 v3 h; exact h.elim
  | succ n_ ih =>
    intro F v1 v2 v3 h
    unfold wp_X0_firstPlaceOf_4 at h
    refine r_iload_n (pc := 4) X 3 dX0_firstPlaceOf_4 rfl rfl ?_
    refine r_iload_n (pc := 5) X 1 dX0_firstPlaceOf_5 rfl rfl ?_
    refine r_icmp_ge (pc := 6) (tgt := 39) X dX0_firstPlaceOf_6 (by decide) (fun hc => ?_) (fun hc => ?_)
    · replace h := h.1 hc
      refine r_iload_n (pc := 39) X 2 dX0_firstPlaceOf_39 rfl rfl ?_
      exact r_iret (pc := 40) X hr dX0_firstPlaceOf_40 h
    · replace h := h.2 hc
      refine r_iload_n (pc := 9) X 3 dX0_firstPlaceOf_9 rfl rfl ?_
      refine r_aload_n (pc := 10) X 0 dX0_firstPlaceOf_10 rfl rfl ?_
      refine fg_X0_21 (pc := 11) X hT.1 dX0_firstPlaceOf_11 ?_
      refine r_icmp_ge (pc := 14) (tgt := 39) X dX0_firstPlaceOf_14 (by decide) (fun hc => ?_) (fun hc => ?_)
      · replace h := h.1 hc
        refine r_iload_n (pc := 39) X 2 dX0_firstPlaceOf_39 rfl rfl ?_
        exact r_iret (pc := 40) X hr dX0_firstPlaceOf_40 h
      · replace h := h.2 hc
        refine r_iload_n (pc := 17) X 2 dX0_firstPlaceOf_17 rfl rfl ?_
        refine r_aload_n (pc := 18) X 0 dX0_firstPlaceOf_18 rfl rfl ?_
        refine fg_X0_25 (pc := 19) X hT.1 dX0_firstPlaceOf_19 ?_
        refine r_aload_n (pc := 22) X 0 dX0_firstPlaceOf_22 rfl rfl ?_
        refine fg_X0_9 (pc := 23) X hT.1 dX0_firstPlaceOf_23 ?_
        refine r_iload_n (pc := 26) X 3 dX0_firstPlaceOf_26 rfl rfl ?_
        refine r_iald (pc := 27) X hT.2.1 h.1 dX0_firstPlaceOf_27 ?_
        replace h := h.2
        refine r_callIV (pc := 28) (As := [.int (F (b + 1) v3.toNatClampNeg)]) (st := [.int v2]) X hA (c_X1_lengthOf hT.2.2.2.2 h) g_X0_48 cl_X1 hT.2.2.2.2.1 hd_X1_lengthOf rfl rfl rfl ⟨Nat.le_of_ble_eq_true rfl, Nat.le_of_ble_eq_true rfl⟩ rfl (Nat.le_of_ble_eq_true rfl) dX0_firstPlaceOf_28 (fun x1 F101 h => ?_)
        refine r_iadd (pc := 31) X dX0_firstPlaceOf_31 ?_
        refine r_istore_n (pc := 32) X [(2, .int (v2 + x1)), (0, .ref (ad b)), (1, .int v1), (3, .int v3)] dX0_firstPlaceOf_32 rfl (by decide) rfl ?_
        refine r_iinc (pc := 33) (v := (v3 + (1))) X 3 [(3, .int (v3 + (1))), (2, .int (v2 + x1)), (0, .ref (ad b)), (1, .int v1)] dX0_firstPlaceOf_33 rfl rfl (by decide) rfl ?_
        refine r_goto (pc := 36) (tgt := 4) X dX0_firstPlaceOf_36 (by decide) ?_
        refine r_sub [2, 3, 1, 0] rfl ?_
        exact ih _ _ _ _ h
def wp_X0_firstPlaceOf (K : Int32 → HF → Prop) (F : HF) (b : Nat) (a1 : Int32) : Prop := ∃ n_, wp_X0_firstPlaceOf_4 K b  n_ F a1 (0 : Int32) (0 : Int32)
set_option maxRecDepth 100000 in
set_option maxHeartbeats 4000000 in
theorem c_X0_firstPlaceOf {l : Launch} {D : va_G} {dA : Nat → ClassId} {ad : Nat → Nat} {R : List Nat} {F : HF} {b : Nat} {a1 : Int32} {K : Int32 → HF → Prop} (hT : Br R b) (h : wp_X0_firstPlaceOf K F b a1) : MI l yX0_firstPlaceOf cX0_firstPlaceOf 4 .int rm_X0_firstPlaceOf D dA ad R F [.ref (ad b), .int a1] K := by
  refine MI.of (own := RX0) (by decide) rfl (Nat.le_of_ble_eq_true rfl) ?_
  intro p e s m args below meth c A hA X hr
  unfold wp_X0_firstPlaceOf at h
  show J p l e rm_X0_firstPlaceOf s m args below meth c 4 D dA ad R A (QI D dA ad R A below args s K) F 0 [(0, .ref (ad b)), (1, .int a1)] []
  refine r_iconst (pc := 0) (v := (0 : Int32)) X dX0_firstPlaceOf_0 (by decide) ?_
  refine r_istore_n (pc := 1) X [(2, .int (0 : Int32)), (0, .ref (ad b)), (1, .int a1)] dX0_firstPlaceOf_1 rfl (by decide) rfl ?_
  refine r_iconst (pc := 2) (v := (0 : Int32)) X dX0_firstPlaceOf_2 (by decide) ?_
  refine r_istore_n (pc := 3) X [(3, .int (0 : Int32)), (2, .int (0 : Int32)), (0, .ref (ad b)), (1, .int a1)] dX0_firstPlaceOf_3 rfl (by decide) rfl ?_
  refine r_sub [2, 3, 1, 0] rfl ?_
  obtain ⟨n1, h⟩ := h
  exact k_X0_firstPlaceOf_4 X hA hr hT  n1 _ _ _ _ h
theorem dX0_placesSpanned_0 : decode cX0_placesSpanned 0 = .ok (.aload_n 0, 1) := by decide +kernel
theorem dX0_placesSpanned_1 : decode cX0_placesSpanned 1 = .ok (.aload_n 0, 1) := by decide +kernel
theorem dX0_placesSpanned_2 : decode cX0_placesSpanned 2 = .ok (.getfield 21, 3) := by decide +kernel
theorem dX0_placesSpanned_5 : decode cX0_placesSpanned 5 = .ok (.invokevirtual 51, 3) := by decide +kernel
theorem dX0_placesSpanned_8 : decode cX0_placesSpanned 8 = .ok (.aload_n 0, 1) := by decide +kernel
theorem dX0_placesSpanned_9 : decode cX0_placesSpanned 9 = .ok (.getfield 25, 3) := by decide +kernel
theorem dX0_placesSpanned_12 : decode cX0_placesSpanned 12 = .ok (.invokevirtual 54, 3) := by decide +kernel
theorem dX0_placesSpanned_15 : decode cX0_placesSpanned 15 = .ok (.invokestatic 58, 3) := by decide +kernel
theorem dX0_placesSpanned_18 : decode cX0_placesSpanned 18 = .ok (.ireturn, 1) := by decide +kernel
theorem hd_X0_placesSpanned : yX0_placesSpanned.cls = RX0 ∧ yX0_placesSpanned.cls ≠ "java/lang/invoke/MethodHandle" ∧ yX0_placesSpanned.cls ≠ "java/lang/invoke/VarHandle" ∧ (parseMethodDescriptor yX0_placesSpanned.desc).map (fun d => d.parameters.length) = some 0 := by decide +kernel
abbrev rm_X0_placesSpanned : Room := { frames := 2, cells := 0, slots := 0, locals := 44 }
def wp_X0_placesSpanned (K : Int32 → HF → Prop) (F : HF) (b : Nat) : Prop := wp_X0_firstPlaceOf (fun x1 F1 => wp_X1_width (fun x2 F2 => K (if x2 < x1 then x2 else x1) F2) F1 4) F b (F b 4)
set_option maxRecDepth 100000 in
set_option maxHeartbeats 4000000 in
theorem c_X0_placesSpanned {l : Launch} {D : va_G} {dA : Nat → ClassId} {ad : Nat → Nat} {R : List Nat} {F : HF} {b : Nat} {K : Int32 → HF → Prop} (hT : Br R b) (h : wp_X0_placesSpanned K F b) : MI l yX0_placesSpanned cX0_placesSpanned 1 .int rm_X0_placesSpanned D dA ad R F [.ref (ad b)] K := by
  refine MI.of (own := RX0) (by decide) rfl (Nat.le_of_ble_eq_true rfl) ?_
  intro p e s m args below meth c A hA X hr
  unfold wp_X0_placesSpanned at h
  show J p l e rm_X0_placesSpanned s m args below meth c 1 D dA ad R A (QI D dA ad R A below args s K) F 0 [(0, .ref (ad b))] []
  refine r_aload_n (pc := 0) X 0 dX0_placesSpanned_0 rfl rfl ?_
  refine r_aload_n (pc := 1) X 0 dX0_placesSpanned_1 rfl rfl ?_
  refine fg_X0_21 (pc := 2) X hT.1 dX0_placesSpanned_2 ?_
  refine r_callIV (pc := 5) (As := [.int (F b 4)]) (st := []) X hA (c_X0_firstPlaceOf hT h) g_X0_51 cl_X0 hT.1 hd_X0_firstPlaceOf rfl rfl rfl ⟨Nat.le_of_ble_eq_true rfl, Nat.le_of_ble_eq_true rfl⟩ rfl (Nat.le_of_ble_eq_true rfl) dX0_placesSpanned_5 (fun x1 F1 h => ?_)
  refine r_aload_n (pc := 8) X 0 dX0_placesSpanned_8 rfl rfl ?_
  refine fg_X0_25 (pc := 9) X hT.1 dX0_placesSpanned_9 ?_
  refine r_callIV (pc := 12) (As := []) (st := [.int x1]) X hA (c_X1_width hT.2.2.2.2 h) g_X0_54 cl_X1 hT.2.2.2.2.1 hd_X1_width rfl rfl rfl ⟨Nat.le_of_ble_eq_true rfl, Nat.le_of_ble_eq_true rfl⟩ rfl (Nat.le_of_ble_eq_true rfl) dX0_placesSpanned_12 (fun x2 F2 h => ?_)
  refine r_mmin (pc := 15) X w_680 w_681 w_58 w_682 (Nat.le_of_ble_eq_true rfl) (Nat.le_of_ble_eq_true rfl) dX0_placesSpanned_15 ?_
  exact r_iret (pc := 18) X hr dX0_placesSpanned_18 h
theorem dX0_isWhole_0 : decode cX0_isWhole 0 = .ok (.aload_n 0, 1) := by decide +kernel
theorem dX0_isWhole_1 : decode cX0_isWhole 1 = .ok (.aload_n 0, 1) := by decide +kernel
theorem dX0_isWhole_2 : decode cX0_isWhole 2 = .ok (.getfield 21, 3) := by decide +kernel
theorem dX0_isWhole_5 : decode cX0_isWhole 5 = .ok (.invokevirtual 51, 3) := by decide +kernel
theorem dX0_isWhole_8 : decode cX0_isWhole 8 = .ok (.aload_n 0, 1) := by decide +kernel
theorem dX0_isWhole_9 : decode cX0_isWhole 9 = .ok (.getfield 25, 3) := by decide +kernel
theorem dX0_isWhole_12 : decode cX0_isWhole 12 = .ok (.invokevirtual 54, 3) := by decide +kernel
theorem dX0_isWhole_15 : decode cX0_isWhole 15 = .ok (.if_icmp .lt 7, 3) := by decide +kernel
theorem dX0_isWhole_18 : decode cX0_isWhole 18 = .ok (.iconst 1, 1) := by decide +kernel
theorem dX0_isWhole_19 : decode cX0_isWhole 19 = .ok (.goto 4, 3) := by decide +kernel
theorem dX0_isWhole_22 : decode cX0_isWhole 22 = .ok (.iconst 0, 1) := by decide +kernel
theorem dX0_isWhole_23 : decode cX0_isWhole 23 = .ok (.ireturn, 1) := by decide +kernel
theorem hd_X0_isWhole : yX0_isWhole.cls = RX0 ∧ yX0_isWhole.cls ≠ "java/lang/invoke/MethodHandle" ∧ yX0_isWhole.cls ≠ "java/lang/invoke/VarHandle" ∧ (parseMethodDescriptor yX0_isWhole.desc).map (fun d => d.parameters.length) = some 0 := by decide +kernel
abbrev rm_X0_isWhole : Room := { frames := 2, cells := 0, slots := 0, locals := 44 }
def wp_X0_isWhole (K : Int32 → HF → Prop) (F : HF) (b : Nat) : Prop := wp_X0_firstPlaceOf (fun x1 F1 => wp_X1_width (fun x2 F2 => ((x1 < x2) → (K (0 : Int32) F2)) ∧ ((¬ x1 < x2) → (K (1 : Int32) F2))) F1 4) F b (F b 4)
set_option maxRecDepth 100000 in
set_option maxHeartbeats 4000000 in
theorem c_X0_isWhole {l : Launch} {D : va_G} {dA : Nat → ClassId} {ad : Nat → Nat} {R : List Nat} {F : HF} {b : Nat} {K : Int32 → HF → Prop} (hT : Br R b) (h : wp_X0_isWhole K F b) : MI l yX0_isWhole cX0_isWhole 1 .boolean rm_X0_isWhole D dA ad R F [.ref (ad b)] K := by
  refine MI.of (own := RX0) (by decide) rfl (Nat.le_of_ble_eq_true rfl) ?_
  intro p e s m args below meth c A hA X hr
  unfold wp_X0_isWhole at h
  show J p l e rm_X0_isWhole s m args below meth c 1 D dA ad R A (QI D dA ad R A below args s K) F 0 [(0, .ref (ad b))] []
  refine r_aload_n (pc := 0) X 0 dX0_isWhole_0 rfl rfl ?_
  refine r_aload_n (pc := 1) X 0 dX0_isWhole_1 rfl rfl ?_
  refine fg_X0_21 (pc := 2) X hT.1 dX0_isWhole_2 ?_
  refine r_callIV (pc := 5) (As := [.int (F b 4)]) (st := []) X hA (c_X0_firstPlaceOf hT h) g_X0_51 cl_X0 hT.1 hd_X0_firstPlaceOf rfl rfl rfl ⟨Nat.le_of_ble_eq_true rfl, Nat.le_of_ble_eq_true rfl⟩ rfl (Nat.le_of_ble_eq_true rfl) dX0_isWhole_5 (fun x1 F1 h => ?_)
  refine r_aload_n (pc := 8) X 0 dX0_isWhole_8 rfl rfl ?_
  refine fg_X0_25 (pc := 9) X hT.1 dX0_isWhole_9 ?_
  refine r_callIV (pc := 12) (As := []) (st := [.int x1]) X hA (c_X1_width hT.2.2.2.2 h) g_X0_54 cl_X1 hT.2.2.2.2.1 hd_X1_width rfl rfl rfl ⟨Nat.le_of_ble_eq_true rfl, Nat.le_of_ble_eq_true rfl⟩ rfl (Nat.le_of_ble_eq_true rfl) dX0_isWhole_12 (fun x2 F2 h => ?_)
  refine r_icmp_lt (pc := 15) (tgt := 22) X dX0_isWhole_15 (by decide) (fun hc => ?_) (fun hc => ?_)
  · replace h := h.1 hc
    refine r_iconst (pc := 22) (v := (0 : Int32)) X dX0_isWhole_22 (by decide) ?_
    exact r_zret (pc := 23) X hr dX0_isWhole_23 nb0 h
  · replace h := h.2 hc
    refine r_iconst (pc := 18) (v := (1 : Int32)) X dX0_isWhole_18 (by decide) ?_
    refine r_goto (pc := 19) (tgt := 23) X dX0_isWhole_19 (by decide) ?_
    exact r_zret (pc := 23) X hr dX0_isWhole_23 nb1 h
theorem dX0_mayJoin_0 : decode cX0_mayJoin 0 = .ok (.aload_n 0, 1) := by decide +kernel
theorem dX0_mayJoin_1 : decode cX0_mayJoin 1 = .ok (.getfield 21, 3) := by decide +kernel
theorem dX0_mayJoin_4 : decode cX0_mayJoin 4 = .ok (.bipush 8, 2) := by decide +kernel
theorem dX0_mayJoin_6 : decode cX0_mayJoin 6 = .ok (.if_icmp .ge 20, 3) := by decide +kernel
theorem dX0_mayJoin_9 : decode cX0_mayJoin 9 = .ok (.aload_n 0, 1) := by decide +kernel
theorem dX0_mayJoin_10 : decode cX0_mayJoin 10 = .ok (.invokevirtual 64, 3) := by decide +kernel
theorem dX0_mayJoin_13 : decode cX0_mayJoin 13 = .ok (.ifCond .ne 13, 3) := by decide +kernel
theorem dX0_mayJoin_16 : decode cX0_mayJoin 16 = .ok (.aload_n 0, 1) := by decide +kernel
theorem dX0_mayJoin_17 : decode cX0_mayJoin 17 = .ok (.iload_n 1, 1) := by decide +kernel
theorem dX0_mayJoin_18 : decode cX0_mayJoin 18 = .ok (.invokevirtual 68, 3) := by decide +kernel
theorem dX0_mayJoin_21 : decode cX0_mayJoin 21 = .ok (.bipush (-4), 2) := by decide +kernel
theorem dX0_mayJoin_23 : decode cX0_mayJoin 23 = .ok (.if_icmp .eq 5, 3) := by decide +kernel
theorem dX0_mayJoin_26 : decode cX0_mayJoin 26 = .ok (.iconst 0, 1) := by decide +kernel
theorem dX0_mayJoin_27 : decode cX0_mayJoin 27 = .ok (.ireturn, 1) := by decide +kernel
theorem dX0_mayJoin_28 : decode cX0_mayJoin 28 = .ok (.aload_n 0, 1) := by decide +kernel
theorem dX0_mayJoin_29 : decode cX0_mayJoin 29 = .ok (.getfield 25, 3) := by decide +kernel
theorem dX0_mayJoin_32 : decode cX0_mayJoin 32 = .ok (.iload_n 1, 1) := by decide +kernel
theorem dX0_mayJoin_33 : decode cX0_mayJoin 33 = .ok (.invokevirtual 42, 3) := by decide +kernel
theorem dX0_mayJoin_36 : decode cX0_mayJoin 36 = .ok (.istore_n 2, 1) := by decide +kernel
theorem dX0_mayJoin_37 : decode cX0_mayJoin 37 = .ok (.aload_n 0, 1) := by decide +kernel
theorem dX0_mayJoin_38 : decode cX0_mayJoin 38 = .ok (.getfield 21, 3) := by decide +kernel
theorem dX0_mayJoin_41 : decode cX0_mayJoin 41 = .ok (.ifCond .ne 24, 3) := by decide +kernel
theorem dX0_mayJoin_44 : decode cX0_mayJoin 44 = .ok (.iload_n 2, 1) := by decide +kernel
theorem dX0_mayJoin_45 : decode cX0_mayJoin 45 = .ok (.iconst 1, 1) := by decide +kernel
theorem dX0_mayJoin_46 : decode cX0_mayJoin 46 = .ok (.if_icmp .eq 13, 3) := by decide +kernel
theorem dX0_mayJoin_49 : decode cX0_mayJoin 49 = .ok (.aload_n 0, 1) := by decide +kernel
theorem dX0_mayJoin_50 : decode cX0_mayJoin 50 = .ok (.getfield 25, 3) := by decide +kernel
theorem dX0_mayJoin_53 : decode cX0_mayJoin 53 = .ok (.invokevirtual 71, 3) := by decide +kernel
theorem dX0_mayJoin_56 : decode cX0_mayJoin 56 = .ok (.ifCond .ne 7, 3) := by decide +kernel
theorem dX0_mayJoin_59 : decode cX0_mayJoin 59 = .ok (.iconst 1, 1) := by decide +kernel
theorem dX0_mayJoin_60 : decode cX0_mayJoin 60 = .ok (.goto 4, 3) := by decide +kernel
theorem dX0_mayJoin_63 : decode cX0_mayJoin 63 = .ok (.iconst 0, 1) := by decide +kernel
theorem dX0_mayJoin_64 : decode cX0_mayJoin 64 = .ok (.ireturn, 1) := by decide +kernel
theorem dX0_mayJoin_65 : decode cX0_mayJoin 65 = .ok (.iload_n 2, 1) := by decide +kernel
theorem dX0_mayJoin_66 : decode cX0_mayJoin 66 = .ok (.iconst 3, 1) := by decide +kernel
theorem dX0_mayJoin_67 : decode cX0_mayJoin 67 = .ok (.if_icmp .ne 17, 3) := by decide +kernel
theorem dX0_mayJoin_70 : decode cX0_mayJoin 70 = .ok (.aload_n 0, 1) := by decide +kernel
theorem dX0_mayJoin_71 : decode cX0_mayJoin 71 = .ok (.aload_n 0, 1) := by decide +kernel
theorem dX0_mayJoin_72 : decode cX0_mayJoin 72 = .ok (.getfield 21, 3) := by decide +kernel
theorem dX0_mayJoin_75 : decode cX0_mayJoin 75 = .ok (.iconst 1, 1) := by decide +kernel
theorem dX0_mayJoin_76 : decode cX0_mayJoin 76 = .ok (.isub, 1) := by decide +kernel
theorem dX0_mayJoin_77 : decode cX0_mayJoin 77 = .ok (.invokevirtual 74, 3) := by decide +kernel
theorem dX0_mayJoin_80 : decode cX0_mayJoin 80 = .ok (.iconst 3, 1) := by decide +kernel
theorem dX0_mayJoin_81 : decode cX0_mayJoin 81 = .ok (.if_icmp .eq 7, 3) := by decide +kernel
theorem dX0_mayJoin_84 : decode cX0_mayJoin 84 = .ok (.iconst 1, 1) := by decide +kernel
theorem dX0_mayJoin_85 : decode cX0_mayJoin 85 = .ok (.goto 4, 3) := by decide +kernel
theorem dX0_mayJoin_88 : decode cX0_mayJoin 88 = .ok (.iconst 0, 1) := by decide +kernel
theorem dX0_mayJoin_89 : decode cX0_mayJoin 89 = .ok (.ireturn, 1) := by decide +kernel
theorem hd_X0_mayJoin : yX0_mayJoin.cls = RX0 ∧ yX0_mayJoin.cls ≠ "java/lang/invoke/MethodHandle" ∧ yX0_mayJoin.cls ≠ "java/lang/invoke/VarHandle" ∧ (parseMethodDescriptor yX0_mayJoin.desc).map (fun d => d.parameters.length) = some 1 := by decide +kernel
abbrev rm_X0_mayJoin : Room := { frames := 3, cells := 0, slots := 0, locals := 64 }
def wp_X0_mayJoin (K : Int32 → HF → Prop) (F : HF) (b : Nat) (a1 : Int32) : Prop := (((8 : Int32) ≤ (F b 4)) → (K (0 : Int32) F)) ∧ ((¬ (8 : Int32) ≤ (F b 4)) → (wp_X0_isWhole (fun x1 F1 => ((¬ x1 = 0) → (K (0 : Int32) F1)) ∧ ((x1 = 0) → (wp_X0_positionOf (fun x2 F2 => ((x2 = (-4 : Int32)) → (wp_X1_kindOf (fun x3 F3 => ((¬ (F3 b 4) = 0) → (((¬ x3 = (3 : Int32)) → (K (1 : Int32) F3)) ∧ ((x3 = (3 : Int32)) → (wp_X0_kindAt (fun x4 F4 => ((x4 = (3 : Int32)) → (K (0 : Int32) F4)) ∧ ((¬ x4 = (3 : Int32)) → (K (1 : Int32) F4))) F3 b ((F3 b 4) - (1 : Int32)))))) ∧ (((F3 b 4) = 0) → (((x3 = (1 : Int32)) → (K (1 : Int32) F3)) ∧ ((¬ x3 = (1 : Int32)) → (wp_X1_hasCrow (fun x5 F5 => ((¬ x5 = 0) → (K (0 : Int32) F5)) ∧ ((x5 = 0) → (K (1 : Int32) F5))) F3 4))))) F2 4 a1)) ∧ ((¬ x2 = (-4 : Int32)) → (K (0 : Int32) F2))) F1 b a1))) F b))
set_option maxRecDepth 100000 in
set_option maxHeartbeats 4000000 in
theorem c_X0_mayJoin {l : Launch} {D : va_G} {dA : Nat → ClassId} {ad : Nat → Nat} {R : List Nat} {F : HF} {b : Nat} {a1 : Int32} {K : Int32 → HF → Prop} (hT : Br R b) (h : wp_X0_mayJoin K F b a1) : MI l yX0_mayJoin cX0_mayJoin 3 .boolean rm_X0_mayJoin D dA ad R F [.ref (ad b), .int a1] K := by
  refine MI.of (own := RX0) (by decide) rfl (Nat.le_of_ble_eq_true rfl) ?_
  intro p e s m args below meth c A hA X hr
  unfold wp_X0_mayJoin at h
  show J p l e rm_X0_mayJoin s m args below meth c 3 D dA ad R A (QI D dA ad R A below args s K) F 0 [(0, .ref (ad b)), (1, .int a1)] []
  refine r_aload_n (pc := 0) X 0 dX0_mayJoin_0 rfl rfl ?_
  refine fg_X0_21 (pc := 1) X hT.1 dX0_mayJoin_1 ?_
  refine r_bipush (pc := 4) (v := (8 : Int32)) X dX0_mayJoin_4 (by decide) ?_
  refine r_icmp_ge (pc := 6) (tgt := 26) X dX0_mayJoin_6 (by decide) (fun hc => ?_) (fun hc => ?_)
  · replace h := h.1 hc
    refine r_iconst (pc := 26) (v := (0 : Int32)) X dX0_mayJoin_26 (by decide) ?_
    exact r_zret (pc := 27) X hr dX0_mayJoin_27 nb0 h
  · replace h := h.2 hc
    refine r_aload_n (pc := 9) X 0 dX0_mayJoin_9 rfl rfl ?_
    refine r_callIV (pc := 10) (As := []) (st := []) X hA (c_X0_isWhole hT h) g_X0_64 cl_X0 hT.1 hd_X0_isWhole rfl rfl rfl ⟨Nat.le_of_ble_eq_true rfl, Nat.le_of_ble_eq_true rfl⟩ rfl (Nat.le_of_ble_eq_true rfl) dX0_mayJoin_10 (fun x1 F1 h => ?_)
    refine r_if_ne (pc := 13) (tgt := 26) X dX0_mayJoin_13 (by decide) (fun hc => ?_) (fun hc => ?_)
    · replace h := h.1 hc
      refine r_iconst (pc := 26) (v := (0 : Int32)) X dX0_mayJoin_26 (by decide) ?_
      exact r_zret (pc := 27) X hr dX0_mayJoin_27 nb0 h
    · replace h := h.2 hc
      refine r_aload_n (pc := 16) X 0 dX0_mayJoin_16 rfl rfl ?_
      refine r_iload_n (pc := 17) X 1 dX0_mayJoin_17 rfl rfl ?_
      refine r_callIV (pc := 18) (As := [.int a1]) (st := []) X hA (c_X0_positionOf hT h) g_X0_68 cl_X0 hT.1 hd_X0_positionOf rfl rfl rfl ⟨Nat.le_of_ble_eq_true rfl, Nat.le_of_ble_eq_true rfl⟩ rfl (Nat.le_of_ble_eq_true rfl) dX0_mayJoin_18 (fun x2 F2 h => ?_)
      refine r_bipush (pc := 21) (v := (-4 : Int32)) X dX0_mayJoin_21 (by decide) ?_
      refine r_icmp_eq (pc := 23) (tgt := 28) X dX0_mayJoin_23 (by decide) (fun hc => ?_) (fun hc => ?_)
      · replace h := h.1 hc
        refine r_aload_n (pc := 28) X 0 dX0_mayJoin_28 rfl rfl ?_
        refine fg_X0_25 (pc := 29) X hT.1 dX0_mayJoin_29 ?_
        refine r_iload_n (pc := 32) X 1 dX0_mayJoin_32 rfl rfl ?_
        refine r_callIV (pc := 33) (As := [.int a1]) (st := []) X hA (c_X1_kindOf hT.2.2.2.2 h) g_X0_42 cl_X1 hT.2.2.2.2.1 hd_X1_kindOf rfl rfl rfl ⟨Nat.le_of_ble_eq_true rfl, Nat.le_of_ble_eq_true rfl⟩ rfl (Nat.le_of_ble_eq_true rfl) dX0_mayJoin_33 (fun x3 F3 h => ?_)
        refine r_istore_n (pc := 36) X [(2, .int x3), (0, .ref (ad b)), (1, .int a1)] dX0_mayJoin_36 rfl (by decide) rfl ?_
        refine r_aload_n (pc := 37) X 1 dX0_mayJoin_37 rfl rfl ?_
        refine fg_X0_21 (pc := 38) X hT.1 dX0_mayJoin_38 ?_
        refine r_if_ne (pc := 41) (tgt := 65) X dX0_mayJoin_41 (by decide) (fun hc => ?_) (fun hc => ?_)
        · replace h := h.1 hc
          refine r_iload_n (pc := 65) X 0 dX0_mayJoin_65 rfl rfl ?_
          refine r_iconst (pc := 66) (v := (3 : Int32)) X dX0_mayJoin_66 (by decide) ?_
          refine r_icmp_ne (pc := 67) (tgt := 84) X dX0_mayJoin_67 (by decide) (fun hc => ?_) (fun hc => ?_)
          · replace h := h.1 hc
            refine r_iconst (pc := 84) (v := (1 : Int32)) X dX0_mayJoin_84 (by decide) ?_
            refine r_goto (pc := 85) (tgt := 89) X dX0_mayJoin_85 (by decide) ?_
            exact r_zret (pc := 89) X hr dX0_mayJoin_89 nb1 h
          · replace h := h.2 hc
            refine r_aload_n (pc := 70) X 1 dX0_mayJoin_70 rfl rfl ?_
            refine r_aload_n (pc := 71) X 1 dX0_mayJoin_71 rfl rfl ?_
            refine fg_X0_21 (pc := 72) X hT.1 dX0_mayJoin_72 ?_
            refine r_iconst (pc := 75) (v := (1 : Int32)) X dX0_mayJoin_75 (by decide) ?_
            refine r_isub (pc := 76) X dX0_mayJoin_76 ?_
            refine r_callIV (pc := 77) (As := [.int ((F3 b 4) - (1 : Int32))]) (st := []) X hA (c_X0_kindAt hT h) g_X0_74 cl_X0 hT.1 hd_X0_kindAt rfl rfl rfl ⟨Nat.le_of_ble_eq_true rfl, Nat.le_of_ble_eq_true rfl⟩ rfl (Nat.le_of_ble_eq_true rfl) dX0_mayJoin_77 (fun x4 F4 h => ?_)
            refine r_iconst (pc := 80) (v := (3 : Int32)) X dX0_mayJoin_80 (by decide) ?_
            refine r_icmp_eq (pc := 81) (tgt := 88) X dX0_mayJoin_81 (by decide) (fun hc => ?_) (fun hc => ?_)
            · replace h := h.1 hc
              refine r_iconst (pc := 88) (v := (0 : Int32)) X dX0_mayJoin_88 (by decide) ?_
              exact r_zret (pc := 89) X hr dX0_mayJoin_89 nb0 h
            · replace h := h.2 hc
              refine r_iconst (pc := 84) (v := (1 : Int32)) X dX0_mayJoin_84 (by decide) ?_
              refine r_goto (pc := 85) (tgt := 89) X dX0_mayJoin_85 (by decide) ?_
              exact r_zret (pc := 89) X hr dX0_mayJoin_89 nb1 h
        · replace h := h.2 hc
          refine r_iload_n (pc := 44) X 0 dX0_mayJoin_44 rfl rfl ?_
          refine r_iconst (pc := 45) (v := (1 : Int32)) X dX0_mayJoin_45 (by decide) ?_
          refine r_icmp_eq (pc := 46) (tgt := 59) X dX0_mayJoin_46 (by decide) (fun hc => ?_) (fun hc => ?_)
          · replace h := h.1 hc
            refine r_iconst (pc := 59) (v := (1 : Int32)) X dX0_mayJoin_59 (by decide) ?_
            refine r_goto (pc := 60) (tgt := 64) X dX0_mayJoin_60 (by decide) ?_
            exact r_zret (pc := 64) X hr dX0_mayJoin_64 nb1 h
          · replace h := h.2 hc
            refine r_aload_n (pc := 49) X 1 dX0_mayJoin_49 rfl rfl ?_
            refine fg_X0_25 (pc := 50) X hT.1 dX0_mayJoin_50 ?_
            refine r_callIV (pc := 53) (As := []) (st := []) X hA (c_X1_hasCrow hT.2.2.2.2 h) g_X0_71 cl_X1 hT.2.2.2.2.1 hd_X1_hasCrow rfl rfl rfl ⟨Nat.le_of_ble_eq_true rfl, Nat.le_of_ble_eq_true rfl⟩ rfl (Nat.le_of_ble_eq_true rfl) dX0_mayJoin_53 (fun x5 F5 h => ?_)
            refine r_if_ne (pc := 56) (tgt := 63) X dX0_mayJoin_56 (by decide) (fun hc => ?_) (fun hc => ?_)
            · replace h := h.1 hc
              refine r_iconst (pc := 63) (v := (0 : Int32)) X dX0_mayJoin_63 (by decide) ?_
              exact r_zret (pc := 64) X hr dX0_mayJoin_64 nb0 h
            · replace h := h.2 hc
              refine r_iconst (pc := 59) (v := (1 : Int32)) X dX0_mayJoin_59 (by decide) ?_
              refine r_goto (pc := 60) (tgt := 64) X dX0_mayJoin_60 (by decide) ?_
              exact r_zret (pc := 64) X hr dX0_mayJoin_64 nb1 h
      · replace h := h.2 hc
        refine r_iconst (pc := 26) (v := (0 : Int32)) X dX0_mayJoin_26 (by decide) ?_
        exact r_zret (pc := 27) X hr dX0_mayJoin_27 nb0 h
theorem dX0_append_0 : decode cX0_append 0 = .ok (.aload_n 0, 1) := by decide +kernel
theorem dX0_append_1 : decode cX0_append 1 = .ok (.getfield 21, 3) := by decide +kernel
theorem dX0_append_4 : decode cX0_append 4 = .ok (.bipush 8, 2) := by decide +kernel
theorem dX0_append_6 : decode cX0_append 6 = .ok (.if_icmp .ge 23, 3) := by decide +kernel
theorem dX0_append_9 : decode cX0_append 9 = .ok (.aload_n 0, 1) := by decide +kernel
theorem dX0_append_10 : decode cX0_append 10 = .ok (.getfield 9, 3) := by decide +kernel
theorem dX0_append_13 : decode cX0_append 13 = .ok (.aload_n 0, 1) := by decide +kernel
theorem dX0_append_14 : decode cX0_append 14 = .ok (.getfield 21, 3) := by decide +kernel
theorem dX0_append_17 : decode cX0_append 17 = .ok (.iload_n 1, 1) := by decide +kernel
theorem dX0_append_18 : decode cX0_append 18 = .ok (.iastore, 1) := by decide +kernel
theorem dX0_append_19 : decode cX0_append 19 = .ok (.aload_n 0, 1) := by decide +kernel
theorem dX0_append_20 : decode cX0_append 20 = .ok (.dup, 1) := by decide +kernel
theorem dX0_append_21 : decode cX0_append 21 = .ok (.getfield 21, 3) := by decide +kernel
theorem dX0_append_24 : decode cX0_append 24 = .ok (.iconst 1, 1) := by decide +kernel
theorem dX0_append_25 : decode cX0_append 25 = .ok (.iadd, 1) := by decide +kernel
theorem dX0_append_26 : decode cX0_append 26 = .ok (.putfield 21, 3) := by decide +kernel
theorem dX0_append_29 : decode cX0_append 29 = .ok (.return_, 1) := by decide +kernel
theorem hd_X0_append : yX0_append.cls = RX0 ∧ yX0_append.cls ≠ "java/lang/invoke/MethodHandle" ∧ yX0_append.cls ≠ "java/lang/invoke/VarHandle" ∧ (parseMethodDescriptor yX0_append.desc).map (fun d => d.parameters.length) = some 1 := by decide +kernel
abbrev rm_X0_append : Room := { frames := 0, cells := 0, slots := 0, locals := 0 }
def wp_X0_append (K : HF → Prop) (F : HF) (b : Nat) (a1 : Int32) : Prop := (((8 : Int32) ≤ (F b 4)) → (K F)) ∧ ((¬ (8 : Int32) ≤ (F b 4)) → ((vp_in (F b 4) 8) ∧ (∀ F1 : HF, F1 = hup F (b + 1) (F b 4).toNatClampNeg a1 → (∀ F2 : HF, F2 = hup F1 b 4 ((F1 b 4) + (1 : Int32)) → (K F2)))))
set_option maxRecDepth 100000 in
set_option maxHeartbeats 4000000 in
theorem c_X0_append {l : Launch} {D : va_G} {dA : Nat → ClassId} {ad : Nat → Nat} {R : List Nat} {F : HF} {b : Nat} {a1 : Int32} {K : HF → Prop} (hT : Br R b) (h : wp_X0_append K F b a1) : MV l yX0_append cX0_append 2 rm_X0_append D dA ad R F [.ref (ad b), .int a1] K := by
  refine MV.of (own := RX0) (by decide) rfl (Nat.le_of_ble_eq_true rfl) ?_
  intro p e s m args below meth c A hA X hr
  unfold wp_X0_append at h
  show J p l e rm_X0_append s m args below meth c 2 D dA ad R A (QV D dA ad R A below args s K) F 0 [(0, .ref (ad b)), (1, .int a1)] []
  refine r_aload_n (pc := 0) X 0 dX0_append_0 rfl rfl ?_
  refine fg_X0_21 (pc := 1) X hT.1 dX0_append_1 ?_
  refine r_bipush (pc := 4) (v := (8 : Int32)) X dX0_append_4 (by decide) ?_
  refine r_icmp_ge (pc := 6) (tgt := 29) X dX0_append_6 (by decide) (fun hc => ?_) (fun hc => ?_)
  · replace h := h.1 hc
    exact r_vret (pc := 29) X hr dX0_append_29 h
  · replace h := h.2 hc
    refine r_aload_n (pc := 9) X 0 dX0_append_9 rfl rfl ?_
    refine fg_X0_9 (pc := 10) X hT.1 dX0_append_10 ?_
    refine r_aload_n (pc := 13) X 0 dX0_append_13 rfl rfl ?_
    refine fg_X0_21 (pc := 14) X hT.1 dX0_append_14 ?_
    refine r_iload_n (pc := 17) X 1 dX0_append_17 rfl rfl ?_
    refine r_iast (pc := 18) X hT.2.1 h.1 dX0_append_18 (fun F1 e1 => ?_)
    replace h := h.2 F1 e1
    refine r_aload_n (pc := 19) X 0 dX0_append_19 rfl rfl ?_
    refine r_dup (pc := 20) X dX0_append_20 rfl ?_
    refine fg_X0_21 (pc := 21) X hT.1 dX0_append_21 ?_
    refine r_iconst (pc := 24) (v := (1 : Int32)) X dX0_append_24 (by decide) ?_
    refine r_iadd (pc := 25) X dX0_append_25 ?_
    refine fp_X0_21 (pc := 26) X hT.1 dX0_append_26 (fun F2 e1 => ?_)
    replace h := h F2 e1
    exact r_vret (pc := 29) X hr dX0_append_29 h
theorem dX0_dropLast_0 : decode cX0_dropLast 0 = .ok (.aload_n 0, 1) := by decide +kernel
theorem dX0_dropLast_1 : decode cX0_dropLast 1 = .ok (.getfield 21, 3) := by decide +kernel
theorem dX0_dropLast_4 : decode cX0_dropLast 4 = .ok (.ifCond .le 13, 3) := by decide +kernel
theorem dX0_dropLast_7 : decode cX0_dropLast 7 = .ok (.aload_n 0, 1) := by decide +kernel
theorem dX0_dropLast_8 : decode cX0_dropLast 8 = .ok (.dup, 1) := by decide +kernel
theorem dX0_dropLast_9 : decode cX0_dropLast 9 = .ok (.getfield 21, 3) := by decide +kernel
theorem dX0_dropLast_12 : decode cX0_dropLast 12 = .ok (.iconst 1, 1) := by decide +kernel
theorem dX0_dropLast_13 : decode cX0_dropLast 13 = .ok (.isub, 1) := by decide +kernel
theorem dX0_dropLast_14 : decode cX0_dropLast 14 = .ok (.putfield 21, 3) := by decide +kernel
theorem dX0_dropLast_17 : decode cX0_dropLast 17 = .ok (.return_, 1) := by decide +kernel
theorem hd_X0_dropLast : yX0_dropLast.cls = RX0 ∧ yX0_dropLast.cls ≠ "java/lang/invoke/MethodHandle" ∧ yX0_dropLast.cls ≠ "java/lang/invoke/VarHandle" ∧ (parseMethodDescriptor yX0_dropLast.desc).map (fun d => d.parameters.length) = some 0 := by decide +kernel
abbrev rm_X0_dropLast : Room := { frames := 0, cells := 0, slots := 0, locals := 0 }
def wp_X0_dropLast (K : HF → Prop) (F : HF) (b : Nat) : Prop := (((F b 4) ≤ 0) → (K F)) ∧ ((¬ (F b 4) ≤ 0) → (∀ F1 : HF, F1 = hup F b 4 ((F b 4) - (1 : Int32)) → (K F1)))
set_option maxRecDepth 100000 in
set_option maxHeartbeats 4000000 in
theorem c_X0_dropLast {l : Launch} {D : va_G} {dA : Nat → ClassId} {ad : Nat → Nat} {R : List Nat} {F : HF} {b : Nat} {K : HF → Prop} (hT : Br R b) (h : wp_X0_dropLast K F b) : MV l yX0_dropLast cX0_dropLast 1 rm_X0_dropLast D dA ad R F [.ref (ad b)] K := by
  refine MV.of (own := RX0) (by decide) rfl (Nat.le_of_ble_eq_true rfl) ?_
  intro p e s m args below meth c A hA X hr
  unfold wp_X0_dropLast at h
  show J p l e rm_X0_dropLast s m args below meth c 1 D dA ad R A (QV D dA ad R A below args s K) F 0 [(0, .ref (ad b))] []
  refine r_aload_n (pc := 0) X 0 dX0_dropLast_0 rfl rfl ?_
  refine fg_X0_21 (pc := 1) X hT.1 dX0_dropLast_1 ?_
  refine r_if_le (pc := 4) (tgt := 17) X dX0_dropLast_4 (by decide) (fun hc => ?_) (fun hc => ?_)
  · replace h := h.1 hc
    exact r_vret (pc := 17) X hr dX0_dropLast_17 h
  · replace h := h.2 hc
    refine r_aload_n (pc := 7) X 0 dX0_dropLast_7 rfl rfl ?_
    refine r_dup (pc := 8) X dX0_dropLast_8 rfl ?_
    refine fg_X0_21 (pc := 9) X hT.1 dX0_dropLast_9 ?_
    refine r_iconst (pc := 12) (v := (1 : Int32)) X dX0_dropLast_12 (by decide) ?_
    refine r_isub (pc := 13) X dX0_dropLast_13 ?_
    refine fp_X0_21 (pc := 14) X hT.1 dX0_dropLast_14 (fun F1 e1 => ?_)
    replace h := h F1 e1
    exact r_vret (pc := 17) X hr dX0_dropLast_17 h
theorem dX0_replace_0 : decode cX0_replace 0 = .ok (.iload_n 1, 1) := by decide +kernel
theorem dX0_replace_1 : decode cX0_replace 1 = .ok (.ifCond .lt 18, 3) := by decide +kernel
theorem dX0_replace_4 : decode cX0_replace 4 = .ok (.iload_n 1, 1) := by decide +kernel
theorem dX0_replace_5 : decode cX0_replace 5 = .ok (.aload_n 0, 1) := by decide +kernel
theorem dX0_replace_6 : decode cX0_replace 6 = .ok (.getfield 21, 3) := by decide +kernel
theorem dX0_replace_9 : decode cX0_replace 9 = .ok (.if_icmp .ge 10, 3) := by decide +kernel
theorem dX0_replace_12 : decode cX0_replace 12 = .ok (.aload_n 0, 1) := by decide +kernel
theorem dX0_replace_13 : decode cX0_replace 13 = .ok (.getfield 9, 3) := by decide +kernel
theorem dX0_replace_16 : decode cX0_replace 16 = .ok (.iload_n 1, 1) := by decide +kernel
theorem dX0_replace_17 : decode cX0_replace 17 = .ok (.iload_n 2, 1) := by decide +kernel
theorem dX0_replace_18 : decode cX0_replace 18 = .ok (.iastore, 1) := by decide +kernel
theorem dX0_replace_19 : decode cX0_replace 19 = .ok (.return_, 1) := by decide +kernel
theorem hd_X0_replace : yX0_replace.cls = RX0 ∧ yX0_replace.cls ≠ "java/lang/invoke/MethodHandle" ∧ yX0_replace.cls ≠ "java/lang/invoke/VarHandle" ∧ (parseMethodDescriptor yX0_replace.desc).map (fun d => d.parameters.length) = some 2 := by decide +kernel
abbrev rm_X0_replace : Room := { frames := 0, cells := 0, slots := 0, locals := 0 }
def wp_X0_replace (K : HF → Prop) (F : HF) (b : Nat) (a1 : Int32) (a2 : Int32) : Prop := ((a1 < 0) → (K F)) ∧ ((¬ a1 < 0) → ((((F b 4) ≤ a1) → (K F)) ∧ ((¬ (F b 4) ≤ a1) → ((vp_in a1 8) ∧ (∀ F1 : HF, F1 = hup F (b + 1) a1.toNatClampNeg a2 → (K F1))))))
set_option maxRecDepth 100000 in
set_option maxHeartbeats 4000000 in
theorem c_X0_replace {l : Launch} {D : va_G} {dA : Nat → ClassId} {ad : Nat → Nat} {R : List Nat} {F : HF} {b : Nat} {a1 : Int32} {a2 : Int32} {K : HF → Prop} (hT : Br R b) (h : wp_X0_replace K F b a1 a2) : MV l yX0_replace cX0_replace 3 rm_X0_replace D dA ad R F [.ref (ad b), .int a1, .int a2] K := by
  refine MV.of (own := RX0) (by decide) rfl (Nat.le_of_ble_eq_true rfl) ?_
  intro p e s m args below meth c A hA X hr
  unfold wp_X0_replace at h
  show J p l e rm_X0_replace s m args below meth c 3 D dA ad R A (QV D dA ad R A below args s K) F 0 [(0, .ref (ad b)), (1, .int a1), (2, .int a2)] []
  refine r_iload_n (pc := 0) X 1 dX0_replace_0 rfl rfl ?_
  refine r_if_lt (pc := 1) (tgt := 19) X dX0_replace_1 (by decide) (fun hc => ?_) (fun hc => ?_)
  · replace h := h.1 hc
    exact r_vret (pc := 19) X hr dX0_replace_19 h
  · replace h := h.2 hc
    refine r_iload_n (pc := 4) X 1 dX0_replace_4 rfl rfl ?_
    refine r_aload_n (pc := 5) X 0 dX0_replace_5 rfl rfl ?_
    refine fg_X0_21 (pc := 6) X hT.1 dX0_replace_6 ?_
    refine r_icmp_ge (pc := 9) (tgt := 19) X dX0_replace_9 (by decide) (fun hc => ?_) (fun hc => ?_)
    · replace h := h.1 hc
      exact r_vret (pc := 19) X hr dX0_replace_19 h
    · replace h := h.2 hc
      refine r_aload_n (pc := 12) X 0 dX0_replace_12 rfl rfl ?_
      refine fg_X0_9 (pc := 13) X hT.1 dX0_replace_13 ?_
      refine r_iload_n (pc := 16) X 1 dX0_replace_16 rfl rfl ?_
      refine r_iload_n (pc := 17) X 2 dX0_replace_17 rfl rfl ?_
      refine r_iast (pc := 18) X hT.2.1 h.1 dX0_replace_18 (fun F1 e1 => ?_)
      replace h := h.2 F1 e1
      exact r_vret (pc := 19) X hr dX0_replace_19 h
theorem dX0_powerAt_0 : decode cX0_powerAt 0 = .ok (.aload_n 0, 1) := by decide +kernel
theorem dX0_powerAt_1 : decode cX0_powerAt 1 = .ok (.iload_n 1, 1) := by decide +kernel
theorem dX0_powerAt_2 : decode cX0_powerAt 2 = .ok (.invokevirtual 77, 3) := by decide +kernel
theorem dX0_powerAt_5 : decode cX0_powerAt 5 = .ok (.istore_n 2, 1) := by decide +kernel
theorem dX0_powerAt_6 : decode cX0_powerAt 6 = .ok (.aload_n 0, 1) := by decide +kernel
theorem dX0_powerAt_7 : decode cX0_powerAt 7 = .ok (.getfield 25, 3) := by decide +kernel
theorem dX0_powerAt_10 : decode cX0_powerAt 10 = .ok (.iload_n 2, 1) := by decide +kernel
theorem dX0_powerAt_11 : decode cX0_powerAt 11 = .ok (.invokevirtual 80, 3) := by decide +kernel
theorem dX0_powerAt_14 : decode cX0_powerAt 14 = .ok (.aload_n 0, 1) := by decide +kernel
theorem dX0_powerAt_15 : decode cX0_powerAt 15 = .ok (.iload_n 2, 1) := by decide +kernel
theorem dX0_powerAt_16 : decode cX0_powerAt 16 = .ok (.invokevirtual 83, 3) := by decide +kernel
theorem dX0_powerAt_19 : decode cX0_powerAt 19 = .ok (.isub, 1) := by decide +kernel
theorem dX0_powerAt_20 : decode cX0_powerAt 20 = .ok (.istore_n 3, 1) := by decide +kernel
theorem dX0_powerAt_21 : decode cX0_powerAt 21 = .ok (.aload_n 0, 1) := by decide +kernel
theorem dX0_powerAt_22 : decode cX0_powerAt 22 = .ok (.getfield 25, 3) := by decide +kernel
theorem dX0_powerAt_25 : decode cX0_powerAt 25 = .ok (.iload_n 2, 1) := by decide +kernel
theorem dX0_powerAt_26 : decode cX0_powerAt 26 = .ok (.invokevirtual 42, 3) := by decide +kernel
theorem dX0_powerAt_29 : decode cX0_powerAt 29 = .ok (.istore 4, 2) := by decide +kernel
theorem dX0_powerAt_31 : decode cX0_powerAt 31 = .ok (.iload 4, 2) := by decide +kernel
theorem dX0_powerAt_33 : decode cX0_powerAt 33 = .ok (.iconst 1, 1) := by decide +kernel
theorem dX0_powerAt_34 : decode cX0_powerAt 34 = .ok (.if_icmp .ne 21, 3) := by decide +kernel
theorem dX0_powerAt_37 : decode cX0_powerAt 37 = .ok (.iload_n 1, 1) := by decide +kernel
theorem dX0_powerAt_38 : decode cX0_powerAt 38 = .ok (.ifCond .le 17, 3) := by decide +kernel
theorem dX0_powerAt_41 : decode cX0_powerAt 41 = .ok (.iload_n 1, 1) := by decide +kernel
theorem dX0_powerAt_42 : decode cX0_powerAt 42 = .ok (.aload_n 0, 1) := by decide +kernel
theorem dX0_powerAt_43 : decode cX0_powerAt 43 = .ok (.getfield 21, 3) := by decide +kernel
theorem dX0_powerAt_46 : decode cX0_powerAt 46 = .ok (.iconst 1, 1) := by decide +kernel
theorem dX0_powerAt_47 : decode cX0_powerAt 47 = .ok (.isub, 1) := by decide +kernel
theorem dX0_powerAt_48 : decode cX0_powerAt 48 = .ok (.if_icmp .ge 7, 3) := by decide +kernel
theorem dX0_powerAt_51 : decode cX0_powerAt 51 = .ok (.iload_n 3, 1) := by decide +kernel
theorem dX0_powerAt_52 : decode cX0_powerAt 52 = .ok (.iconst 2, 1) := by decide +kernel
theorem dX0_powerAt_53 : decode cX0_powerAt 53 = .ok (.idiv, 1) := by decide +kernel
theorem dX0_powerAt_54 : decode cX0_powerAt 54 = .ok (.ireturn, 1) := by decide +kernel
theorem dX0_powerAt_55 : decode cX0_powerAt 55 = .ok (.iload 4, 2) := by decide +kernel
theorem dX0_powerAt_57 : decode cX0_powerAt 57 = .ok (.iconst 4, 1) := by decide +kernel
theorem dX0_powerAt_58 : decode cX0_powerAt 58 = .ok (.if_icmp .ne 29, 3) := by decide +kernel
theorem dX0_powerAt_61 : decode cX0_powerAt 61 = .ok (.aload_n 0, 1) := by decide +kernel
theorem dX0_powerAt_62 : decode cX0_powerAt 62 = .ok (.iload_n 1, 1) := by decide +kernel
theorem dX0_powerAt_63 : decode cX0_powerAt 63 = .ok (.iconst 1, 1) := by decide +kernel
theorem dX0_powerAt_64 : decode cX0_powerAt 64 = .ok (.isub, 1) := by decide +kernel
theorem dX0_powerAt_65 : decode cX0_powerAt 65 = .ok (.invokevirtual 74, 3) := by decide +kernel
theorem dX0_powerAt_68 : decode cX0_powerAt 68 = .ok (.iconst 4, 1) := by decide +kernel
theorem dX0_powerAt_69 : decode cX0_powerAt 69 = .ok (.if_icmp .eq 14, 3) := by decide +kernel
theorem dX0_powerAt_72 : decode cX0_powerAt 72 = .ok (.aload_n 0, 1) := by decide +kernel
theorem dX0_powerAt_73 : decode cX0_powerAt 73 = .ok (.iload_n 1, 1) := by decide +kernel
theorem dX0_powerAt_74 : decode cX0_powerAt 74 = .ok (.iconst 1, 1) := by decide +kernel
theorem dX0_powerAt_75 : decode cX0_powerAt 75 = .ok (.iadd, 1) := by decide +kernel
theorem dX0_powerAt_76 : decode cX0_powerAt 76 = .ok (.invokevirtual 74, 3) := by decide +kernel
theorem dX0_powerAt_79 : decode cX0_powerAt 79 = .ok (.iconst 4, 1) := by decide +kernel
theorem dX0_powerAt_80 : decode cX0_powerAt 80 = .ok (.if_icmp .ne 7, 3) := by decide +kernel
theorem dX0_powerAt_83 : decode cX0_powerAt 83 = .ok (.iload_n 3, 1) := by decide +kernel
theorem dX0_powerAt_84 : decode cX0_powerAt 84 = .ok (.iconst 5, 1) := by decide +kernel
theorem dX0_powerAt_85 : decode cX0_powerAt 85 = .ok (.iadd, 1) := by decide +kernel
theorem dX0_powerAt_86 : decode cX0_powerAt 86 = .ok (.ireturn, 1) := by decide +kernel
theorem dX0_powerAt_87 : decode cX0_powerAt 87 = .ok (.iload_n 3, 1) := by decide +kernel
theorem dX0_powerAt_88 : decode cX0_powerAt 88 = .ok (.ireturn, 1) := by decide +kernel
theorem hd_X0_powerAt : yX0_powerAt.cls = RX0 ∧ yX0_powerAt.cls ≠ "java/lang/invoke/MethodHandle" ∧ yX0_powerAt.cls ≠ "java/lang/invoke/VarHandle" ∧ (parseMethodDescriptor yX0_powerAt.desc).map (fun d => d.parameters.length) = some 1 := by decide +kernel
abbrev rm_X0_powerAt : Room := { frames := 2, cells := 0, slots := 0, locals := 42 }
def wp_X0_powerAt_55 (K : Int32 → HF → Prop) (b : Nat) (F : HF) (v1 : Int32) (v3 : Int32) (v4 : Int32) : Prop := ((¬ v4 = (4 : Int32)) → (K v3 F)) ∧ ((v4 = (4 : Int32)) → (wp_X0_kindAt (fun x5 F105 => ((x5 = (4 : Int32)) → (K (v3 + (5 : Int32)) F105)) ∧ ((¬ x5 = (4 : Int32)) → (wp_X0_kindAt (fun x6 F106 => ((¬ x6 = (4 : Int32)) → (K v3 F106)) ∧ ((x6 = (4 : Int32)) → (K (v3 + (5 : Int32)) F106))) F105 b (v1 + (1 : Int32))))) F b (v1 - (1 : Int32))))
set_option maxRecDepth 100000 in
set_option maxHeartbeats 4000000 in
theorem k_X0_powerAt_55 {p : Program} {l : Launch} {e : Env} {s : State} {m : MethodId} {args : Array Value} {below : List Frame} {meth : Method} {c : Code} {D : va_G} {dA : Nat → ClassId} {ad : Nat → Nat} {R : List Nat} {A : Nat → Prop} {K : Int32 → HF → Prop} {b : Nat} (X : Cx p s m args meth c cX0_powerAt 5 RX0 D dA) (hA : ∀ q, s.heap.size ≤ q → A q) (hr : meth.sig.returnType = some .int) (hT : Br R b) : ∀ (F : HF) (v1 : Int32) (v3 : Int32) (v4 : Int32), wp_X0_powerAt_55 K b F v1 v3 v4 → J p l e rm_X0_powerAt s m args below meth c 5 D dA ad R A (QI D dA ad R A below args s K) F 55 [(0, .ref (ad b)), (1, .int v1), (3, .int v3), (4, .int v4)] [] := by
  intro F v1 v3 v4 h
  unfold wp_X0_powerAt_55 at h
  refine r_iload (pc := 55) X 3 dX0_powerAt_55 rfl ?_
  refine r_iconst (pc := 57) (v := (4 : Int32)) X dX0_powerAt_57 (by decide) ?_
  refine r_icmp_ne (pc := 58) (tgt := 87) X dX0_powerAt_58 (by decide) (fun hc => ?_) (fun hc => ?_)
  · replace h := h.1 hc
    refine r_iload_n (pc := 87) X 2 dX0_powerAt_87 rfl rfl ?_
    exact r_iret (pc := 88) X hr dX0_powerAt_88 h
  · replace h := h.2 hc
    refine r_aload_n (pc := 61) X 0 dX0_powerAt_61 rfl rfl ?_
    refine r_iload_n (pc := 62) X 1 dX0_powerAt_62 rfl rfl ?_
    refine r_iconst (pc := 63) (v := (1 : Int32)) X dX0_powerAt_63 (by decide) ?_
    refine r_isub (pc := 64) X dX0_powerAt_64 ?_
    refine r_callIV (pc := 65) (As := [.int (v1 - (1 : Int32))]) (st := []) X hA (c_X0_kindAt hT h) g_X0_74 cl_X0 hT.1 hd_X0_kindAt rfl rfl rfl ⟨Nat.le_of_ble_eq_true rfl, Nat.le_of_ble_eq_true rfl⟩ rfl (Nat.le_of_ble_eq_true rfl) dX0_powerAt_65 (fun x5 F105 h => ?_)
    refine r_iconst (pc := 68) (v := (4 : Int32)) X dX0_powerAt_68 (by decide) ?_
    refine r_icmp_eq (pc := 69) (tgt := 83) X dX0_powerAt_69 (by decide) (fun hc => ?_) (fun hc => ?_)
    · replace h := h.1 hc
      refine r_iload_n (pc := 83) X 2 dX0_powerAt_83 rfl rfl ?_
      refine r_iconst (pc := 84) (v := (5 : Int32)) X dX0_powerAt_84 (by decide) ?_
      refine r_iadd (pc := 85) X dX0_powerAt_85 ?_
      exact r_iret (pc := 86) X hr dX0_powerAt_86 h
    · replace h := h.2 hc
      refine r_aload_n (pc := 72) X 0 dX0_powerAt_72 rfl rfl ?_
      refine r_iload_n (pc := 73) X 1 dX0_powerAt_73 rfl rfl ?_
      refine r_iconst (pc := 74) (v := (1 : Int32)) X dX0_powerAt_74 (by decide) ?_
      refine r_iadd (pc := 75) X dX0_powerAt_75 ?_
      refine r_callIV (pc := 76) (As := [.int (v1 + (1 : Int32))]) (st := []) X hA (c_X0_kindAt hT h) g_X0_74 cl_X0 hT.1 hd_X0_kindAt rfl rfl rfl ⟨Nat.le_of_ble_eq_true rfl, Nat.le_of_ble_eq_true rfl⟩ rfl (Nat.le_of_ble_eq_true rfl) dX0_powerAt_76 (fun x6 F106 h => ?_)
      refine r_iconst (pc := 79) (v := (4 : Int32)) X dX0_powerAt_79 (by decide) ?_
      refine r_icmp_ne (pc := 80) (tgt := 87) X dX0_powerAt_80 (by decide) (fun hc => ?_) (fun hc => ?_)
      · replace h := h.1 hc
        refine r_iload_n (pc := 87) X 2 dX0_powerAt_87 rfl rfl ?_
        exact r_iret (pc := 88) X hr dX0_powerAt_88 h
      · replace h := h.2 hc
        refine r_iload_n (pc := 83) X 2 dX0_powerAt_83 rfl rfl ?_
        refine r_iconst (pc := 84) (v := (5 : Int32)) X dX0_powerAt_84 (by decide) ?_
        refine r_iadd (pc := 85) X dX0_powerAt_85 ?_
        exact r_iret (pc := 86) X hr dX0_powerAt_86 h
def wp_X0_powerAt (K : Int32 → HF → Prop) (F : HF) (b : Nat) (a1 : Int32) : Prop := wp_X0_birdAt (fun x1 F1 => wp_X1_strengthOf (fun x2 F2 => wp_X0_tiredOf (fun x3 F3 => wp_X1_kindOf (fun x4 F4 => ((¬ x4 = (1 : Int32)) → (wp_X0_powerAt_55 K b  F4 a1 (x2 - x3) x4)) ∧ ((x4 = (1 : Int32)) → (((a1 ≤ 0) → (wp_X0_powerAt_55 K b  F4 a1 (x2 - x3) x4)) ∧ ((¬ a1 ≤ 0) → (((((F4 b 4) - (1 : Int32)) ≤ a1) → (wp_X0_powerAt_55 K b  F4 a1 (x2 - x3) x4)) ∧ ((¬ ((F4 b 4) - (1 : Int32)) ≤ a1) → (K ((x2 - x3) / (2 : Int32)) F4))))))) F3 4 x1) F2 b x1) F1 4 x1) F b a1
set_option maxRecDepth 100000 in
set_option maxHeartbeats 4000000 in
theorem c_X0_powerAt {l : Launch} {D : va_G} {dA : Nat → ClassId} {ad : Nat → Nat} {R : List Nat} {F : HF} {b : Nat} {a1 : Int32} {K : Int32 → HF → Prop} (hT : Br R b) (h : wp_X0_powerAt K F b a1) : MI l yX0_powerAt cX0_powerAt 5 .int rm_X0_powerAt D dA ad R F [.ref (ad b), .int a1] K := by
  refine MI.of (own := RX0) (by decide) rfl (Nat.le_of_ble_eq_true rfl) ?_
  intro p e s m args below meth c A hA X hr
  unfold wp_X0_powerAt at h
  show J p l e rm_X0_powerAt s m args below meth c 5 D dA ad R A (QI D dA ad R A below args s K) F 0 [(0, .ref (ad b)), (1, .int a1)] []
  refine r_aload_n (pc := 0) X 0 dX0_powerAt_0 rfl rfl ?_
  refine r_iload_n (pc := 1) X 1 dX0_powerAt_1 rfl rfl ?_
  refine r_callIV (pc := 2) (As := [.int a1]) (st := []) X hA (c_X0_birdAt hT h) g_X0_77 cl_X0 hT.1 hd_X0_birdAt rfl rfl rfl ⟨Nat.le_of_ble_eq_true rfl, Nat.le_of_ble_eq_true rfl⟩ rfl (Nat.le_of_ble_eq_true rfl) dX0_powerAt_2 (fun x1 F1 h => ?_)
  refine r_istore_n (pc := 5) X [(2, .int x1), (0, .ref (ad b)), (1, .int a1)] dX0_powerAt_5 rfl (by decide) rfl ?_
  refine r_aload_n (pc := 6) X 1 dX0_powerAt_6 rfl rfl ?_
  refine fg_X0_25 (pc := 7) X hT.1 dX0_powerAt_7 ?_
  refine r_iload_n (pc := 10) X 0 dX0_powerAt_10 rfl rfl ?_
  refine r_callIV (pc := 11) (As := [.int x1]) (st := []) X hA (c_X1_strengthOf hT.2.2.2.2 h) g_X0_80 cl_X1 hT.2.2.2.2.1 hd_X1_strengthOf rfl rfl rfl ⟨Nat.le_of_ble_eq_true rfl, Nat.le_of_ble_eq_true rfl⟩ rfl (Nat.le_of_ble_eq_true rfl) dX0_powerAt_11 (fun x2 F2 h => ?_)
  refine r_aload_n (pc := 14) X 1 dX0_powerAt_14 rfl rfl ?_
  refine r_iload_n (pc := 15) X 0 dX0_powerAt_15 rfl rfl ?_
  refine r_callIV (pc := 16) (As := [.int x1]) (st := [.int x2]) X hA (c_X0_tiredOf hT h) g_X0_83 cl_X0 hT.1 hd_X0_tiredOf rfl rfl rfl ⟨Nat.le_of_ble_eq_true rfl, Nat.le_of_ble_eq_true rfl⟩ rfl (Nat.le_of_ble_eq_true rfl) dX0_powerAt_16 (fun x3 F3 h => ?_)
  refine r_isub (pc := 19) X dX0_powerAt_19 ?_
  refine r_istore_n (pc := 20) X [(3, .int (x2 - x3)), (2, .int x1), (0, .ref (ad b)), (1, .int a1)] dX0_powerAt_20 rfl (by decide) rfl ?_
  refine r_aload_n (pc := 21) X 2 dX0_powerAt_21 rfl rfl ?_
  refine fg_X0_25 (pc := 22) X hT.1 dX0_powerAt_22 ?_
  refine r_iload_n (pc := 25) X 1 dX0_powerAt_25 rfl rfl ?_
  refine r_callIV (pc := 26) (As := [.int x1]) (st := []) X hA (c_X1_kindOf hT.2.2.2.2 h) g_X0_42 cl_X1 hT.2.2.2.2.1 hd_X1_kindOf rfl rfl rfl ⟨Nat.le_of_ble_eq_true rfl, Nat.le_of_ble_eq_true rfl⟩ rfl (Nat.le_of_ble_eq_true rfl) dX0_powerAt_26 (fun x4 F4 h => ?_)
  refine r_istore (pc := 29) X [(4, .int x4), (3, .int (x2 - x3)), (2, .int x1), (0, .ref (ad b)), (1, .int a1)] dX0_powerAt_29 (by decide) rfl ?_
  refine r_iload (pc := 31) X 0 dX0_powerAt_31 rfl ?_
  refine r_iconst (pc := 33) (v := (1 : Int32)) X dX0_powerAt_33 (by decide) ?_
  refine r_icmp_ne (pc := 34) (tgt := 55) X dX0_powerAt_34 (by decide) (fun hc => ?_) (fun hc => ?_)
  · replace h := h.1 hc
    refine r_sub [3, 4, 1, 0] rfl ?_
    exact k_X0_powerAt_55 X hA hr hT  _ _ _ _ h
  · replace h := h.2 hc
    refine r_iload_n (pc := 37) X 4 dX0_powerAt_37 rfl rfl ?_
    refine r_if_le (pc := 38) (tgt := 55) X dX0_powerAt_38 (by decide) (fun hc => ?_) (fun hc => ?_)
    · replace h := h.1 hc
      refine r_sub [3, 4, 1, 0] rfl ?_
      exact k_X0_powerAt_55 X hA hr hT  _ _ _ _ h
    · replace h := h.2 hc
      refine r_iload_n (pc := 41) X 4 dX0_powerAt_41 rfl rfl ?_
      refine r_aload_n (pc := 42) X 3 dX0_powerAt_42 rfl rfl ?_
      refine fg_X0_21 (pc := 43) X hT.1 dX0_powerAt_43 ?_
      refine r_iconst (pc := 46) (v := (1 : Int32)) X dX0_powerAt_46 (by decide) ?_
      refine r_isub (pc := 47) X dX0_powerAt_47 ?_
      refine r_icmp_ge (pc := 48) (tgt := 55) X dX0_powerAt_48 (by decide) (fun hc => ?_) (fun hc => ?_)
      · replace h := h.1 hc
        refine r_sub [3, 4, 1, 0] rfl ?_
        exact k_X0_powerAt_55 X hA hr hT  _ _ _ _ h
      · replace h := h.2 hc
        refine r_iload_n (pc := 51) X 1 dX0_powerAt_51 rfl rfl ?_
        refine r_iconst (pc := 52) (v := (2 : Int32)) X dX0_powerAt_52 (by decide) ?_
        refine r_idiv (pc := 53) X dX0_powerAt_53 (by decide) ?_
        exact r_iret (pc := 54) X hr dX0_powerAt_54 h
theorem dX0_unload_0 : decode cX0_unload 0 = .ok (.iconst 0, 1) := by decide +kernel
theorem dX0_unload_1 : decode cX0_unload 1 = .ok (.istore_n 1, 1) := by decide +kernel
theorem dX0_unload_2 : decode cX0_unload 2 = .ok (.iload_n 1, 1) := by decide +kernel
theorem dX0_unload_3 : decode cX0_unload 3 = .ok (.bipush 8, 2) := by decide +kernel
theorem dX0_unload_5 : decode cX0_unload 5 = .ok (.if_icmp .ge 16, 3) := by decide +kernel
theorem dX0_unload_8 : decode cX0_unload 8 = .ok (.aload_n 0, 1) := by decide +kernel
theorem dX0_unload_9 : decode cX0_unload 9 = .ok (.getfield 18, 3) := by decide +kernel
theorem dX0_unload_12 : decode cX0_unload 12 = .ok (.iload_n 1, 1) := by decide +kernel
theorem dX0_unload_13 : decode cX0_unload 13 = .ok (.iconst 0, 1) := by decide +kernel
theorem dX0_unload_14 : decode cX0_unload 14 = .ok (.iastore, 1) := by decide +kernel
theorem dX0_unload_15 : decode cX0_unload 15 = .ok (.iinc 1 1, 3) := by decide +kernel
theorem dX0_unload_18 : decode cX0_unload 18 = .ok (.goto (-16), 3) := by decide +kernel
theorem dX0_unload_21 : decode cX0_unload 21 = .ok (.return_, 1) := by decide +kernel
theorem hd_X0_unload : yX0_unload.cls = RX0 ∧ yX0_unload.cls ≠ "java/lang/invoke/MethodHandle" ∧ yX0_unload.cls ≠ "java/lang/invoke/VarHandle" ∧ (parseMethodDescriptor yX0_unload.desc).map (fun d => d.parameters.length) = some 0 := by decide +kernel
abbrev rm_X0_unload : Room := { frames := 0, cells := 0, slots := 0, locals := 0 }
def wp_X0_unload_2 (K : HF → Prop) (b : Nat) : Nat → HF → Int32 → Prop
  | 0 => fun _ _ => False
  | n_ + 1 => fun F v1 => (((8 : Int32) ≤ v1) → (K F)) ∧ ((¬ (8 : Int32) ≤ v1) → ((vp_in v1 8) ∧ (∀ F101 : HF, F101 = hup F (b + 3) v1.toNatClampNeg (0 : Int32) → (wp_X0_unload_2 K b  n_ F101 (v1 + (1))))))
set_option maxRecDepth 100000 in
set_option maxHeartbeats 4000000 in
theorem k_X0_unload_2 {p : Program} {l : Launch} {e : Env} {s : State} {m : MethodId} {args : Array Value} {below : List Frame} {meth : Method} {c : Code} {D : va_G} {dA : Nat → ClassId} {ad : Nat → Nat} {R : List Nat} {A : Nat → Prop} {K : HF → Prop} {b : Nat} (X : Cx p s m args meth c cX0_unload 2 RX0 D dA) (hA : ∀ q, s.heap.size ≤ q → A q) (hr : meth.sig.returnType = none) (hT : Br R b) : ∀ (n_ : Nat) (F : HF) (v1 : Int32), wp_X0_unload_2 K b n_ F v1 → J p l e rm_X0_unload s m args below meth c 2 D dA ad R A (QV D dA ad R A below args s K) F 2 [(0, .ref (ad b)), (1, .int v1)] [] := by
  intro n_
  induction n_ with
  | zero => intro F v1 h; exact h.elim
  | succ n_ ih =>
    intro F v1 h
    unfold wp_X0_unload_2 at h
    refine r_iload_n (pc := 2) X 1 dX0_unload_2 rfl rfl ?_
    refine r_bipush (pc := 3) (v := (8 : Int32)) X dX0_unload_3 (by decide) ?_
    refine r_icmp_ge (pc := 5) (tgt := 21) X dX0_unload_5 (by decide) (fun hc => ?_) (fun hc => ?_)
    · replace h := h.1 hc
      exact r_vret (pc := 21) X hr dX0_unload_21 h
    · replace h := h.2 hc
      refine r_aload_n (pc := 8) X 0 dX0_unload_8 rfl rfl ?_
      refine fg_X0_18 (pc := 9) X hT.1 dX0_unload_9 ?_
      refine r_iload_n (pc := 12) X 1 dX0_unload_12 rfl rfl ?_
      refine r_iconst (pc := 13) (v := (0 : Int32)) X dX0_unload_13 (by decide) ?_
      refine r_iast (pc := 14) X hT.2.2.2.1 h.1 dX0_unload_14 (fun F101 e1 => ?_)
      replace h := h.2 F101 e1
      refine r_iinc (pc := 15) (v := (v1 + (1))) X 1 [(1, .int (v1 + (1))), (0, .ref (ad b))] dX0_unload_15 rfl rfl (by decide) rfl ?_
      refine r_goto (pc := 18) (tgt := 2) X dX0_unload_18 (by decide) ?_
      refine r_sub [1, 0] rfl ?_
      exact ih _ _ h
def wp_X0_unload (K : HF → Prop) (F : HF) (b : Nat) : Prop := ∃ n_, wp_X0_unload_2 K b  n_ F (0 : Int32)
set_option maxRecDepth 100000 in
set_option maxHeartbeats 4000000 in
theorem c_X0_unload {l : Launch} {D : va_G} {dA : Nat → ClassId} {ad : Nat → Nat} {R : List Nat} {F : HF} {b : Nat} {K : HF → Prop} (hT : Br R b) (h : wp_X0_unload K F b) : MV l yX0_unload cX0_unload 2 rm_X0_unload D dA ad R F [.ref (ad b)] K := by
  refine MV.of (own := RX0) (by decide) rfl (Nat.le_of_ble_eq_true rfl) ?_
  intro p e s m args below meth c A hA X hr
  unfold wp_X0_unload at h
  show J p l e rm_X0_unload s m args below meth c 2 D dA ad R A (QV D dA ad R A below args s K) F 0 [(0, .ref (ad b))] []
  refine r_iconst (pc := 0) (v := (0 : Int32)) X dX0_unload_0 (by decide) ?_
  refine r_istore_n (pc := 1) X [(1, .int (0 : Int32)), (0, .ref (ad b))] dX0_unload_1 rfl (by decide) rfl ?_
  refine r_sub [1, 0] rfl ?_
  obtain ⟨n1, h⟩ := h
  exact k_X0_unload_2 X hA hr hT  n1 _ _ h
theorem dX0_whoSpans_0 : decode cX0_whoSpans 0 = .ok (.iconst 0, 1) := by decide +kernel
theorem dX0_whoSpans_1 : decode cX0_whoSpans 1 = .ok (.istore_n 2, 1) := by decide +kernel
theorem dX0_whoSpans_2 : decode cX0_whoSpans 2 = .ok (.iconst 0, 1) := by decide +kernel
theorem dX0_whoSpans_3 : decode cX0_whoSpans 3 = .ok (.istore_n 3, 1) := by decide +kernel
theorem dX0_whoSpans_4 : decode cX0_whoSpans 4 = .ok (.iload_n 3, 1) := by decide +kernel
theorem dX0_whoSpans_5 : decode cX0_whoSpans 5 = .ok (.aload_n 0, 1) := by decide +kernel
theorem dX0_whoSpans_6 : decode cX0_whoSpans 6 = .ok (.getfield 21, 3) := by decide +kernel
theorem dX0_whoSpans_9 : decode cX0_whoSpans 9 = .ok (.if_icmp .ge 32, 3) := by decide +kernel
theorem dX0_whoSpans_12 : decode cX0_whoSpans 12 = .ok (.iload_n 2, 1) := by decide +kernel
theorem dX0_whoSpans_13 : decode cX0_whoSpans 13 = .ok (.aload_n 0, 1) := by decide +kernel
theorem dX0_whoSpans_14 : decode cX0_whoSpans 14 = .ok (.getfield 25, 3) := by decide +kernel
theorem dX0_whoSpans_17 : decode cX0_whoSpans 17 = .ok (.aload_n 0, 1) := by decide +kernel
theorem dX0_whoSpans_18 : decode cX0_whoSpans 18 = .ok (.getfield 9, 3) := by decide +kernel
theorem dX0_whoSpans_21 : decode cX0_whoSpans 21 = .ok (.iload_n 3, 1) := by decide +kernel
theorem dX0_whoSpans_22 : decode cX0_whoSpans 22 = .ok (.iaload, 1) := by decide +kernel
theorem dX0_whoSpans_23 : decode cX0_whoSpans 23 = .ok (.invokevirtual 48, 3) := by decide +kernel
theorem dX0_whoSpans_26 : decode cX0_whoSpans 26 = .ok (.iadd, 1) := by decide +kernel
theorem dX0_whoSpans_27 : decode cX0_whoSpans 27 = .ok (.istore_n 2, 1) := by decide +kernel
theorem dX0_whoSpans_28 : decode cX0_whoSpans 28 = .ok (.iload_n 1, 1) := by decide +kernel
theorem dX0_whoSpans_29 : decode cX0_whoSpans 29 = .ok (.iload_n 2, 1) := by decide +kernel
theorem dX0_whoSpans_30 : decode cX0_whoSpans 30 = .ok (.if_icmp .ge 5, 3) := by decide +kernel
theorem dX0_whoSpans_33 : decode cX0_whoSpans 33 = .ok (.iload_n 3, 1) := by decide +kernel
theorem dX0_whoSpans_34 : decode cX0_whoSpans 34 = .ok (.ireturn, 1) := by decide +kernel
theorem dX0_whoSpans_35 : decode cX0_whoSpans 35 = .ok (.iinc 3 1, 3) := by decide +kernel
theorem dX0_whoSpans_38 : decode cX0_whoSpans 38 = .ok (.goto (-34), 3) := by decide +kernel
theorem dX0_whoSpans_41 : decode cX0_whoSpans 41 = .ok (.bipush (-4), 2) := by decide +kernel
theorem dX0_whoSpans_43 : decode cX0_whoSpans 43 = .ok (.ireturn, 1) := by decide +kernel
theorem hd_X0_whoSpans : yX0_whoSpans.cls = RX0 ∧ yX0_whoSpans.cls ≠ "java/lang/invoke/MethodHandle" ∧ yX0_whoSpans.cls ≠ "java/lang/invoke/VarHandle" ∧ (parseMethodDescriptor yX0_whoSpans.desc).map (fun d => d.parameters.length) = some 1 := by decide +kernel
abbrev rm_X0_whoSpans : Room := { frames := 1, cells := 0, slots := 0, locals := 21 }
def wp_X0_whoSpans_4 (K : Int32 → HF → Prop) (b : Nat) : Nat → HF → Int32 → Int32 → Int32 → Prop
  | 0 => fun _ _ _ _ => False
  | n_ + 1 => fun F v1 v2 v3 => (((F b 4) ≤ v3) → (K (-4 : Int32) F)) ∧ ((¬ (F b 4) ≤ v3) → ((vp_in v3 8) ∧ (wp_X1_lengthOf (fun x1 F101 => (((v2 + x1) ≤ v1) → (wp_X0_whoSpans_4 K b  n_ F101 v1 (v2 + x1) (v3 + (1)))) ∧ ((¬ (v2 + x1) ≤ v1) → (K v3 F101))) F 4 (F (b + 1) v3.toNatClampNeg))))
set_option maxRecDepth 100000 in
set_option maxHeartbeats 4000000 in
theorem k_X0_whoSpans_4 {p : Program} {l : Launch} {e : Env} {s : State} {m : MethodId} {args : Array Value} {below : List Frame} {meth : Method} {c : Code} {D : va_G} {dA : Nat → ClassId} {ad : Nat → Nat} {R : List Nat} {A : Nat → Prop} {K : Int32 → HF → Prop} {b : Nat} (X : Cx p s m args meth c cX0_whoSpans 4 RX0 D dA) (hA : ∀ q, s.heap.size ≤ q → A q) (hr : meth.sig.returnType = some .int) (hT : Br R b) : ∀ (n_ : Nat) (F : HF) (v1 : Int32) (v2 : Int32) (v3 : Int32), wp_X0_whoSpans_4 K b n_ F v1 v2 v3 → J p l e rm_X0_whoSpans s m args below meth c 4 D dA ad R A (QI D dA ad R A below args s K) F 4 [(0, .ref (ad b)), (1, .int v1), (2, .int v2), (3, .int v3)] [] := by
  intro n_
  induction n_ with
  | zero => intro F v1 v2 v3 h; exact h.elim
  | succ n_ ih =>
    intro F v1 v2 v3 h
    unfold wp_X0_whoSpans_4 at h
    refine r_iload_n (pc := 4) X 3 dX0_whoSpans_4 rfl rfl ?_
    refine r_aload_n (pc := 5) X 0 dX0_whoSpans_5 rfl rfl ?_
    refine fg_X0_21 (pc := 6) X hT.1 dX0_whoSpans_6 ?_
    refine r_icmp_ge (pc := 9) (tgt := 41) X dX0_whoSpans_9 (by decide) (fun hc => ?_) (fun hc => ?_)
    · replace h := h.1 hc
      refine r_bipush (pc := 41) (v := (-4 : Int32)) X dX0_whoSpans_41 (by decide) ?_
      exact r_iret (pc := 43) X hr dX0_whoSpans_43 h
    · replace h := h.2 hc
      refine r_iload_n (pc := 12) X 2 dX0_whoSpans_12 rfl rfl ?_
      refine r_aload_n (pc := 13) X 0 dX0_whoSpans_13 rfl rfl ?_
      refine fg_X0_25 (pc := 14) X hT.1 dX0_whoSpans_14 ?_
      refine r_aload_n (pc := 17) X 0 dX0_whoSpans_17 rfl rfl ?_
      refine fg_X0_9 (pc := 18) X hT.1 dX0_whoSpans_18 ?_
      refine r_iload_n (pc := 21) X 3 dX0_whoSpans_21 rfl rfl ?_
      refine r_iald (pc := 22) X hT.2.1 h.1 dX0_whoSpans_22 ?_
      replace h := h.2
      refine r_callIV (pc := 23) (As := [.int (F (b + 1) v3.toNatClampNeg)]) (st := [.int v2]) X hA (c_X1_lengthOf hT.2.2.2.2 h) g_X0_48 cl_X1 hT.2.2.2.2.1 hd_X1_lengthOf rfl rfl rfl ⟨Nat.le_of_ble_eq_true rfl, Nat.le_of_ble_eq_true rfl⟩ rfl (Nat.le_of_ble_eq_true rfl) dX0_whoSpans_23 (fun x1 F101 h => ?_)
      refine r_iadd (pc := 26) X dX0_whoSpans_26 ?_
      refine r_istore_n (pc := 27) X [(2, .int (v2 + x1)), (0, .ref (ad b)), (1, .int v1), (3, .int v3)] dX0_whoSpans_27 rfl (by decide) rfl ?_
      refine r_iload_n (pc := 28) X 2 dX0_whoSpans_28 rfl rfl ?_
      refine r_iload_n (pc := 29) X 0 dX0_whoSpans_29 rfl rfl ?_
      refine r_icmp_ge (pc := 30) (tgt := 35) X dX0_whoSpans_30 (by decide) (fun hc => ?_) (fun hc => ?_)
      · replace h := h.1 hc
        refine r_iinc (pc := 35) (v := (v3 + (1))) X 3 [(3, .int (v3 + (1))), (2, .int (v2 + x1)), (0, .ref (ad b)), (1, .int v1)] dX0_whoSpans_35 rfl rfl (by decide) rfl ?_
        refine r_goto (pc := 38) (tgt := 4) X dX0_whoSpans_38 (by decide) ?_
        refine r_sub [2, 3, 1, 0] rfl ?_
        exact ih _ _ _ _ h
      · replace h := h.2 hc
        refine r_iload_n (pc := 33) X 3 dX0_whoSpans_33 rfl rfl ?_
        exact r_iret (pc := 34) X hr dX0_whoSpans_34 h
def wp_X0_whoSpans (K : Int32 → HF → Prop) (F : HF) (b : Nat) (a1 : Int32) : Prop := ∃ n_, wp_X0_whoSpans_4 K b  n_ F a1 (0 : Int32) (0 : Int32)
set_option maxRecDepth 100000 in
set_option maxHeartbeats 4000000 in
theorem c_X0_whoSpans {l : Launch} {D : va_G} {dA : Nat → ClassId} {ad : Nat → Nat} {R : List Nat} {F : HF} {b : Nat} {a1 : Int32} {K : Int32 → HF → Prop} (hT : Br R b) (h : wp_X0_whoSpans K F b a1) : MI l yX0_whoSpans cX0_whoSpans 4 .int rm_X0_whoSpans D dA ad R F [.ref (ad b), .int a1] K := by
  refine MI.of (own := RX0) (by decide) rfl (Nat.le_of_ble_eq_true rfl) ?_
  intro p e s m args below meth c A hA X hr
  unfold wp_X0_whoSpans at h
  show J p l e rm_X0_whoSpans s m args below meth c 4 D dA ad R A (QI D dA ad R A below args s K) F 0 [(0, .ref (ad b)), (1, .int a1)] []
  refine r_iconst (pc := 0) (v := (0 : Int32)) X dX0_whoSpans_0 (by decide) ?_
  refine r_istore_n (pc := 1) X [(2, .int (0 : Int32)), (0, .ref (ad b)), (1, .int a1)] dX0_whoSpans_1 rfl (by decide) rfl ?_
  refine r_iconst (pc := 2) (v := (0 : Int32)) X dX0_whoSpans_2 (by decide) ?_
  refine r_istore_n (pc := 3) X [(3, .int (0 : Int32)), (2, .int (0 : Int32)), (0, .ref (ad b)), (1, .int a1)] dX0_whoSpans_3 rfl (by decide) rfl ?_
  refine r_sub [2, 3, 1, 0] rfl ?_
  obtain ⟨n1, h⟩ := h
  exact k_X0_whoSpans_4 X hA hr hT  n1 _ _ _ _ h
theorem dX0_press_0 : decode cX0_press 0 = .ok (.aload_n 0, 1) := by decide +kernel
theorem dX0_press_1 : decode cX0_press 1 = .ok (.iload_n 1, 1) := by decide +kernel
theorem dX0_press_2 : decode cX0_press 2 = .ok (.invokevirtual 86, 3) := by decide +kernel
theorem dX0_press_5 : decode cX0_press 5 = .ok (.istore_n 3, 1) := by decide +kernel
theorem dX0_press_6 : decode cX0_press 6 = .ok (.iload_n 3, 1) := by decide +kernel
theorem dX0_press_7 : decode cX0_press 7 = .ok (.bipush (-4), 2) := by decide +kernel
theorem dX0_press_9 : decode cX0_press 9 = .ok (.if_icmp .ne 4, 3) := by decide +kernel
theorem dX0_press_12 : decode cX0_press 12 = .ok (.return_, 1) := by decide +kernel
theorem dX0_press_13 : decode cX0_press 13 = .ok (.iconst 0, 1) := by decide +kernel
theorem dX0_press_14 : decode cX0_press 14 = .ok (.istore 4, 2) := by decide +kernel
theorem dX0_press_16 : decode cX0_press 16 = .ok (.iload 4, 2) := by decide +kernel
theorem dX0_press_18 : decode cX0_press 18 = .ok (.aload_n 0, 1) := by decide +kernel
theorem dX0_press_19 : decode cX0_press 19 = .ok (.getfield 21, 3) := by decide +kernel
theorem dX0_press_22 : decode cX0_press 22 = .ok (.if_icmp .ge 78, 3) := by decide +kernel
theorem dX0_press_25 : decode cX0_press 25 = .ok (.iload 4, 2) := by decide +kernel
theorem dX0_press_27 : decode cX0_press 27 = .ok (.iload_n 3, 1) := by decide +kernel
theorem dX0_press_28 : decode cX0_press 28 = .ok (.isub, 1) := by decide +kernel
theorem dX0_press_29 : decode cX0_press 29 = .ok (.invokestatic 89, 3) := by decide +kernel
theorem dX0_press_32 : decode cX0_press 32 = .ok (.istore 5, 2) := by decide +kernel
theorem dX0_press_34 : decode cX0_press 34 = .ok (.iload 5, 2) := by decide +kernel
theorem dX0_press_36 : decode cX0_press 36 = .ok (.ifCond .ne 17, 3) := by decide +kernel
theorem dX0_press_39 : decode cX0_press 39 = .ok (.aload_n 0, 1) := by decide +kernel
theorem dX0_press_40 : decode cX0_press 40 = .ok (.getfield 18, 3) := by decide +kernel
theorem dX0_press_43 : decode cX0_press 43 = .ok (.iload 4, 2) := by decide +kernel
theorem dX0_press_45 : decode cX0_press 45 = .ok (.dup2, 1) := by decide +kernel
theorem dX0_press_46 : decode cX0_press 46 = .ok (.iaload, 1) := by decide +kernel
theorem dX0_press_47 : decode cX0_press 47 = .ok (.iload_n 2, 1) := by decide +kernel
theorem dX0_press_48 : decode cX0_press 48 = .ok (.iadd, 1) := by decide +kernel
theorem dX0_press_49 : decode cX0_press 49 = .ok (.iastore, 1) := by decide +kernel
theorem dX0_press_50 : decode cX0_press 50 = .ok (.goto 44, 3) := by decide +kernel
theorem dX0_press_53 : decode cX0_press 53 = .ok (.iload 5, 2) := by decide +kernel
theorem dX0_press_55 : decode cX0_press 55 = .ok (.iconst 1, 1) := by decide +kernel
theorem dX0_press_56 : decode cX0_press 56 = .ok (.if_icmp .ne 19, 3) := by decide +kernel
theorem dX0_press_59 : decode cX0_press 59 = .ok (.aload_n 0, 1) := by decide +kernel
theorem dX0_press_60 : decode cX0_press 60 = .ok (.getfield 18, 3) := by decide +kernel
theorem dX0_press_63 : decode cX0_press 63 = .ok (.iload 4, 2) := by decide +kernel
theorem dX0_press_65 : decode cX0_press 65 = .ok (.dup2, 1) := by decide +kernel
theorem dX0_press_66 : decode cX0_press 66 = .ok (.iaload, 1) := by decide +kernel
theorem dX0_press_67 : decode cX0_press 67 = .ok (.iload_n 2, 1) := by decide +kernel
theorem dX0_press_68 : decode cX0_press 68 = .ok (.iconst 2, 1) := by decide +kernel
theorem dX0_press_69 : decode cX0_press 69 = .ok (.idiv, 1) := by decide +kernel
theorem dX0_press_70 : decode cX0_press 70 = .ok (.iadd, 1) := by decide +kernel
theorem dX0_press_71 : decode cX0_press 71 = .ok (.iastore, 1) := by decide +kernel
theorem dX0_press_72 : decode cX0_press 72 = .ok (.goto 22, 3) := by decide +kernel
theorem dX0_press_75 : decode cX0_press 75 = .ok (.iload 5, 2) := by decide +kernel
theorem dX0_press_77 : decode cX0_press 77 = .ok (.iconst 2, 1) := by decide +kernel
theorem dX0_press_78 : decode cX0_press 78 = .ok (.if_icmp .ne 16, 3) := by decide +kernel
theorem dX0_press_81 : decode cX0_press 81 = .ok (.aload_n 0, 1) := by decide +kernel
theorem dX0_press_82 : decode cX0_press 82 = .ok (.getfield 18, 3) := by decide +kernel
theorem dX0_press_85 : decode cX0_press 85 = .ok (.iload 4, 2) := by decide +kernel
theorem dX0_press_87 : decode cX0_press 87 = .ok (.dup2, 1) := by decide +kernel
theorem dX0_press_88 : decode cX0_press 88 = .ok (.iaload, 1) := by decide +kernel
theorem dX0_press_89 : decode cX0_press 89 = .ok (.iload_n 2, 1) := by decide +kernel
theorem dX0_press_90 : decode cX0_press 90 = .ok (.iconst 4, 1) := by decide +kernel
theorem dX0_press_91 : decode cX0_press 91 = .ok (.idiv, 1) := by decide +kernel
theorem dX0_press_92 : decode cX0_press 92 = .ok (.iadd, 1) := by decide +kernel
theorem dX0_press_93 : decode cX0_press 93 = .ok (.iastore, 1) := by decide +kernel
theorem dX0_press_94 : decode cX0_press 94 = .ok (.iinc 4 1, 3) := by decide +kernel
theorem dX0_press_97 : decode cX0_press 97 = .ok (.goto (-81), 3) := by decide +kernel
theorem dX0_press_100 : decode cX0_press 100 = .ok (.return_, 1) := by decide +kernel
theorem hd_X0_press : yX0_press.cls = RX0 ∧ yX0_press.cls ≠ "java/lang/invoke/MethodHandle" ∧ yX0_press.cls ≠ "java/lang/invoke/VarHandle" ∧ (parseMethodDescriptor yX0_press.desc).map (fun d => d.parameters.length) = some 2 := by decide +kernel
abbrev rm_X0_press : Room := { frames := 2, cells := 0, slots := 0, locals := 44 }
def wp_X0_press_94 (K : HF → Prop) (L16 : HF → Int32 → Int32 → Int32 → Prop) (b : Nat) (F : HF) (v2 : Int32) (v3 : Int32) (v4 : Int32) : Prop := L16 F v2 v3 (v4 + (1))
set_option maxRecDepth 100000 in
set_option maxHeartbeats 4000000 in
theorem k_X0_press_94 {p : Program} {l : Launch} {e : Env} {s : State} {m : MethodId} {args : Array Value} {below : List Frame} {meth : Method} {c : Code} {D : va_G} {dA : Nat → ClassId} {ad : Nat → Nat} {R : List Nat} {A : Nat → Prop} {K : HF → Prop} {L16 : HF → Int32 → Int32 → Int32 → Prop} {b : Nat} (X : Cx p s m args meth c cX0_press 6 RX0 D dA) (hA : ∀ q, s.heap.size ≤ q → A q) (hr : meth.sig.returnType = none) (hT : Br R b) (hL16 : ∀ (F : HF) (v2 : Int32) (v3 : Int32) (v4 : Int32), L16 F v2 v3 v4 → J p l e rm_X0_press s m args below meth c 6 D dA ad R A (QV D dA ad R A below args s K) F 16 [(0, .ref (ad b)), (2, .int v2), (3, .int v3), (4, .int v4)] []) : ∀ (F : HF) (v2 : Int32) (v3 : Int32) (v4 : Int32), wp_X0_press_94 K L16 b F v2 v3 v4 → J p l e rm_X0_press s m args below meth c 6 D dA ad R A (QV D dA ad R A below args s K) F 94 [(0, .ref (ad b)), (2, .int v2), (3, .int v3), (4, .int v4)] [] := by
  intro F v2 v3 v4 h
  unfold wp_X0_press_94 at h
  refine r_iinc (pc := 94) (v := (v4 + (1))) X 3 [(4, .int (v4 + (1))), (0, .ref (ad b)), (2, .int v2), (3, .int v3)] dX0_press_94 rfl rfl (by decide) rfl ?_
  refine r_goto (pc := 97) (tgt := 16) X dX0_press_97 (by decide) ?_
  refine r_sub [1, 2, 3, 0] rfl ?_
  exact hL16 _ _ _ _ h
def wp_X0_press_16 (K : HF → Prop) (b : Nat) : Nat → HF → Int32 → Int32 → Int32 → Prop
  | 0 => fun _ _ _ _ => False
  | n_ + 1 => fun F v2 v3 v4 => (((F b 4) ≤ v4) → (K F)) ∧ ((¬ (F b 4) ≤ v4) → (((¬ (if 0 ≤ (v4 - v3) then (v4 - v3) else 0 - (v4 - v3)) = 0) → (((¬ (if 0 ≤ (v4 - v3) then (v4 - v3) else 0 - (v4 - v3)) = (1 : Int32)) → (((¬ (if 0 ≤ (v4 - v3) then (v4 - v3) else 0 - (v4 - v3)) = (2 : Int32)) → (wp_X0_press_94 K (wp_X0_press_16 K b n_) b  F v2 v3 v4)) ∧ (((if 0 ≤ (v4 - v3) then (v4 - v3) else 0 - (v4 - v3)) = (2 : Int32)) → ((vp_in v4 8) ∧ ((vp_in v4 8) ∧ (∀ F202 : HF, F202 = hup F (b + 3) v4.toNatClampNeg ((F (b + 3) v4.toNatClampNeg) + (v2 / (4 : Int32))) → (wp_X0_press_94 K (wp_X0_press_16 K b n_) b  F202 v2 v3 v4))))))) ∧ (((if 0 ≤ (v4 - v3) then (v4 - v3) else 0 - (v4 - v3)) = (1 : Int32)) → ((vp_in v4 8) ∧ ((vp_in v4 8) ∧ (∀ F203 : HF, F203 = hup F (b + 3) v4.toNatClampNeg ((F (b + 3) v4.toNatClampNeg) + (v2 / (2 : Int32))) → (wp_X0_press_94 K (wp_X0_press_16 K b n_) b  F203 v2 v3 v4))))))) ∧ (((if 0 ≤ (v4 - v3) then (v4 - v3) else 0 - (v4 - v3)) = 0) → ((vp_in v4 8) ∧ ((vp_in v4 8) ∧ (∀ F204 : HF, F204 = hup F (b + 3) v4.toNatClampNeg ((F (b + 3) v4.toNatClampNeg) + v2) → (wp_X0_press_94 K (wp_X0_press_16 K b n_) b  F204 v2 v3 v4)))))))
set_option maxRecDepth 100000 in
set_option maxHeartbeats 4000000 in
theorem k_X0_press_16 {p : Program} {l : Launch} {e : Env} {s : State} {m : MethodId} {args : Array Value} {below : List Frame} {meth : Method} {c : Code} {D : va_G} {dA : Nat → ClassId} {ad : Nat → Nat} {R : List Nat} {A : Nat → Prop} {K : HF → Prop} {b : Nat} (X : Cx p s m args meth c cX0_press 6 RX0 D dA) (hA : ∀ q, s.heap.size ≤ q → A q) (hr : meth.sig.returnType = none) (hT : Br R b) : ∀ (n_ : Nat) (F : HF) (v2 : Int32) (v3 : Int32) (v4 : Int32), wp_X0_press_16 K b n_ F v2 v3 v4 → J p l e rm_X0_press s m args below meth c 6 D dA ad R A (QV D dA ad R A below args s K) F 16 [(0, .ref (ad b)), (2, .int v2), (3, .int v3), (4, .int v4)] [] := by
  intro n_
  induction n_ with
  | zero => intro F v2 v3 v4 h; exact h.elim
  | succ n_ ih =>
    intro F v2 v3 v4 h
    unfold wp_X0_press_16 at h
    refine r_iload (pc := 16) X 3 dX0_press_16 rfl ?_
    refine r_aload_n (pc := 18) X 0 dX0_press_18 rfl rfl ?_
    refine fg_X0_21 (pc := 19) X hT.1 dX0_press_19 ?_
    refine r_icmp_ge (pc := 22) (tgt := 100) X dX0_press_22 (by decide) (fun hc => ?_) (fun hc => ?_)
    · replace h := h.1 hc
      exact r_vret (pc := 100) X hr dX0_press_100 h
    · replace h := h.2 hc
      refine r_iload (pc := 25) X 3 dX0_press_25 rfl ?_
      refine r_iload_n (pc := 27) X 2 dX0_press_27 rfl rfl ?_
      refine r_isub (pc := 28) X dX0_press_28 ?_
      refine r_mabs (pc := 29) X w_533 w_534 w_58 w_535 (Nat.le_of_ble_eq_true rfl) (Nat.le_of_ble_eq_true rfl) dX0_press_29 ?_
      refine r_istore (pc := 32) X [(5, .int (if 0 ≤ (v4 - v3) then (v4 - v3) else 0 - (v4 - v3))), (0, .ref (ad b)), (2, .int v2), (3, .int v3), (4, .int v4)] dX0_press_32 (by decide) rfl ?_
      refine r_iload (pc := 34) X 0 dX0_press_34 rfl ?_
      refine r_if_ne (pc := 36) (tgt := 53) X dX0_press_36 (by decide) (fun hc => ?_) (fun hc => ?_)
      · replace h := h.1 hc
        refine r_iload (pc := 53) X 0 dX0_press_53 rfl ?_
        refine r_iconst (pc := 55) (v := (1 : Int32)) X dX0_press_55 (by decide) ?_
        refine r_icmp_ne (pc := 56) (tgt := 75) X dX0_press_56 (by decide) (fun hc => ?_) (fun hc => ?_)
        · replace h := h.1 hc
          refine r_iload (pc := 75) X 0 dX0_press_75 rfl ?_
          refine r_iconst (pc := 77) (v := (2 : Int32)) X dX0_press_77 (by decide) ?_
          refine r_icmp_ne (pc := 78) (tgt := 94) X dX0_press_78 (by decide) (fun hc => ?_) (fun hc => ?_)
          · replace h := h.1 hc
            refine r_sub [1, 2, 3, 4] rfl ?_
            exact k_X0_press_94 X hA hr hT ih _ _ _ _ h
          · replace h := h.2 hc
            refine r_aload_n (pc := 81) X 1 dX0_press_81 rfl rfl ?_
            refine fg_X0_18 (pc := 82) X hT.1 dX0_press_82 ?_
            refine r_iload (pc := 85) X 4 dX0_press_85 rfl ?_
            refine r_dup2 (pc := 87) X dX0_press_87 rfl rfl ?_
            refine r_iald (pc := 88) X hT.2.2.2.1 h.1 dX0_press_88 ?_
            replace h := h.2
            refine r_iload_n (pc := 89) X 2 dX0_press_89 rfl rfl ?_
            refine r_iconst (pc := 90) (v := (4 : Int32)) X dX0_press_90 (by decide) ?_
            refine r_idiv (pc := 91) X dX0_press_91 (by decide) ?_
            refine r_iadd (pc := 92) X dX0_press_92 ?_
            refine r_iast (pc := 93) X hT.2.2.2.1 h.1 dX0_press_93 (fun F202 e1 => ?_)
            replace h := h.2 F202 e1
            refine r_sub [1, 2, 3, 4] rfl ?_
            exact k_X0_press_94 X hA hr hT ih _ _ _ _ h
        · replace h := h.2 hc
          refine r_aload_n (pc := 59) X 1 dX0_press_59 rfl rfl ?_
          refine fg_X0_18 (pc := 60) X hT.1 dX0_press_60 ?_
          refine r_iload (pc := 63) X 4 dX0_press_63 rfl ?_
          refine r_dup2 (pc := 65) X dX0_press_65 rfl rfl ?_
          refine r_iald (pc := 66) X hT.2.2.2.1 h.1 dX0_press_66 ?_
          replace h := h.2
          refine r_iload_n (pc := 67) X 2 dX0_press_67 rfl rfl ?_
          refine r_iconst (pc := 68) (v := (2 : Int32)) X dX0_press_68 (by decide) ?_
          refine r_idiv (pc := 69) X dX0_press_69 (by decide) ?_
          refine r_iadd (pc := 70) X dX0_press_70 ?_
          refine r_iast (pc := 71) X hT.2.2.2.1 h.1 dX0_press_71 (fun F203 e1 => ?_)
          replace h := h.2 F203 e1
          refine r_goto (pc := 72) (tgt := 94) X dX0_press_72 (by decide) ?_
          refine r_sub [1, 2, 3, 4] rfl ?_
          exact k_X0_press_94 X hA hr hT ih _ _ _ _ h
      · replace h := h.2 hc
        refine r_aload_n (pc := 39) X 1 dX0_press_39 rfl rfl ?_
        refine fg_X0_18 (pc := 40) X hT.1 dX0_press_40 ?_
        refine r_iload (pc := 43) X 4 dX0_press_43 rfl ?_
        refine r_dup2 (pc := 45) X dX0_press_45 rfl rfl ?_
        refine r_iald (pc := 46) X hT.2.2.2.1 h.1 dX0_press_46 ?_
        replace h := h.2
        refine r_iload_n (pc := 47) X 2 dX0_press_47 rfl rfl ?_
        refine r_iadd (pc := 48) X dX0_press_48 ?_
        refine r_iast (pc := 49) X hT.2.2.2.1 h.1 dX0_press_49 (fun F204 e1 => ?_)
        replace h := h.2 F204 e1
        refine r_goto (pc := 50) (tgt := 94) X dX0_press_50 (by decide) ?_
        refine r_sub [1, 2, 3, 4] rfl ?_
        exact k_X0_press_94 X hA hr hT ih _ _ _ _ h
def wp_X0_press (K : HF → Prop) (F : HF) (b : Nat) (a1 : Int32) (a2 : Int32) : Prop := wp_X0_whoSpans (fun x1 F1 => ((¬ x1 = (-4 : Int32)) → (∃ n_, wp_X0_press_16 K b  n_ F1 a2 x1 (0 : Int32))) ∧ ((x1 = (-4 : Int32)) → (K F1))) F b a1
set_option maxRecDepth 100000 in
set_option maxHeartbeats 4000000 in
theorem c_X0_press {l : Launch} {D : va_G} {dA : Nat → ClassId} {ad : Nat → Nat} {R : List Nat} {F : HF} {b : Nat} {a1 : Int32} {a2 : Int32} {K : HF → Prop} (hT : Br R b) (h : wp_X0_press K F b a1 a2) : MV l yX0_press cX0_press 6 rm_X0_press D dA ad R F [.ref (ad b), .int a1, .int a2] K := by
  refine MV.of (own := RX0) (by decide) rfl (Nat.le_of_ble_eq_true rfl) ?_
  intro p e s m args below meth c A hA X hr
  unfold wp_X0_press at h
  show J p l e rm_X0_press s m args below meth c 6 D dA ad R A (QV D dA ad R A below args s K) F 0 [(0, .ref (ad b)), (1, .int a1), (2, .int a2)] []
  refine r_aload_n (pc := 0) X 0 dX0_press_0 rfl rfl ?_
  refine r_iload_n (pc := 1) X 1 dX0_press_1 rfl rfl ?_
  refine r_callIV (pc := 2) (As := [.int a1]) (st := []) X hA (c_X0_whoSpans hT h) g_X0_86 cl_X0 hT.1 hd_X0_whoSpans rfl rfl rfl ⟨Nat.le_of_ble_eq_true rfl, Nat.le_of_ble_eq_true rfl⟩ rfl (Nat.le_of_ble_eq_true rfl) dX0_press_2 (fun x1 F1 h => ?_)
  refine r_istore_n (pc := 5) X [(3, .int x1), (0, .ref (ad b)), (1, .int a1), (2, .int a2)] dX0_press_5 rfl (by decide) rfl ?_
  refine r_iload_n (pc := 6) X 0 dX0_press_6 rfl rfl ?_
  refine r_bipush (pc := 7) (v := (-4 : Int32)) X dX0_press_7 (by decide) ?_
  refine r_icmp_ne (pc := 9) (tgt := 13) X dX0_press_9 (by decide) (fun hc => ?_) (fun hc => ?_)
  · replace h := h.1 hc
    refine r_iconst (pc := 13) (v := (0 : Int32)) X dX0_press_13 (by decide) ?_
    refine r_istore (pc := 14) X [(4, .int (0 : Int32)), (3, .int x1), (0, .ref (ad b)), (1, .int a1), (2, .int a2)] dX0_press_14 (by decide) rfl ?_
    refine r_sub [2, 4, 1, 0] rfl ?_
    obtain ⟨n1, h⟩ := h
    exact k_X0_press_16 X hA hr hT  n1 _ _ _ _ h
  · replace h := h.2 hc
    exact r_vret (pc := 12) X hr dX0_press_12 h
theorem dX0_loadAlone_0 : decode cX0_loadAlone 0 = .ok (.aload_n 0, 1) := by decide +kernel
theorem dX0_loadAlone_1 : decode cX0_loadAlone 1 = .ok (.invokevirtual 92, 3) := by decide +kernel
theorem dX0_loadAlone_4 : decode cX0_loadAlone 4 = .ok (.aload_n 0, 1) := by decide +kernel
theorem dX0_loadAlone_5 : decode cX0_loadAlone 5 = .ok (.iload_n 1, 1) := by decide +kernel
theorem dX0_loadAlone_6 : decode cX0_loadAlone 6 = .ok (.iload_n 2, 1) := by decide +kernel
theorem dX0_loadAlone_7 : decode cX0_loadAlone 7 = .ok (.invokevirtual 95, 3) := by decide +kernel
theorem dX0_loadAlone_10 : decode cX0_loadAlone 10 = .ok (.return_, 1) := by decide +kernel
theorem hd_X0_loadAlone : yX0_loadAlone.cls = RX0 ∧ yX0_loadAlone.cls ≠ "java/lang/invoke/MethodHandle" ∧ yX0_loadAlone.cls ≠ "java/lang/invoke/VarHandle" ∧ (parseMethodDescriptor yX0_loadAlone.desc).map (fun d => d.parameters.length) = some 2 := by decide +kernel
abbrev rm_X0_loadAlone : Room := { frames := 3, cells := 0, slots := 0, locals := 69 }
def wp_X0_loadAlone (K : HF → Prop) (F : HF) (b : Nat) (a1 : Int32) (a2 : Int32) : Prop := wp_X0_unload (fun F1 => wp_X0_press (fun F2 => K F2) F1 b a1 a2) F b
set_option maxRecDepth 100000 in
set_option maxHeartbeats 4000000 in
theorem c_X0_loadAlone {l : Launch} {D : va_G} {dA : Nat → ClassId} {ad : Nat → Nat} {R : List Nat} {F : HF} {b : Nat} {a1 : Int32} {a2 : Int32} {K : HF → Prop} (hT : Br R b) (h : wp_X0_loadAlone K F b a1 a2) : MV l yX0_loadAlone cX0_loadAlone 3 rm_X0_loadAlone D dA ad R F [.ref (ad b), .int a1, .int a2] K := by
  refine MV.of (own := RX0) (by decide) rfl (Nat.le_of_ble_eq_true rfl) ?_
  intro p e s m args below meth c A hA X hr
  unfold wp_X0_loadAlone at h
  show J p l e rm_X0_loadAlone s m args below meth c 3 D dA ad R A (QV D dA ad R A below args s K) F 0 [(0, .ref (ad b)), (1, .int a1), (2, .int a2)] []
  refine r_aload_n (pc := 0) X 0 dX0_loadAlone_0 rfl rfl ?_
  refine r_callVV (pc := 1) (As := []) (st := []) X hA (c_X0_unload hT h) g_X0_92 cl_X0 hT.1 hd_X0_unload rfl rfl rfl ⟨Nat.le_of_ble_eq_true rfl, Nat.le_of_ble_eq_true rfl⟩ rfl (Nat.le_of_ble_eq_true rfl) dX0_loadAlone_1 (fun F1 h => ?_)
  refine r_aload_n (pc := 4) X 0 dX0_loadAlone_4 rfl rfl ?_
  refine r_iload_n (pc := 5) X 1 dX0_loadAlone_5 rfl rfl ?_
  refine r_iload_n (pc := 6) X 2 dX0_loadAlone_6 rfl rfl ?_
  refine r_callVV (pc := 7) (As := [.int a1, .int a2]) (st := []) X hA (c_X0_press hT h) g_X0_95 cl_X0 hT.1 hd_X0_press rfl rfl rfl ⟨Nat.le_of_ble_eq_true rfl, Nat.le_of_ble_eq_true rfl⟩ rfl (Nat.le_of_ble_eq_true rfl) dX0_loadAlone_7 (fun F2 h => ?_)
  exact r_vret (pc := 10) X hr dX0_loadAlone_10 h
theorem dX0_tire_0 : decode cX0_tire 0 = .ok (.iconst 0, 1) := by decide +kernel
theorem dX0_tire_1 : decode cX0_tire 1 = .ok (.istore_n 1, 1) := by decide +kernel
theorem dX0_tire_2 : decode cX0_tire 2 = .ok (.iload_n 1, 1) := by decide +kernel
theorem dX0_tire_3 : decode cX0_tire 3 = .ok (.aload_n 0, 1) := by decide +kernel
theorem dX0_tire_4 : decode cX0_tire 4 = .ok (.getfield 21, 3) := by decide +kernel
theorem dX0_tire_7 : decode cX0_tire 7 = .ok (.if_icmp .ge 64, 3) := by decide +kernel
theorem dX0_tire_10 : decode cX0_tire 10 = .ok (.aload_n 0, 1) := by decide +kernel
theorem dX0_tire_11 : decode cX0_tire 11 = .ok (.getfield 18, 3) := by decide +kernel
theorem dX0_tire_14 : decode cX0_tire 14 = .ok (.iload_n 1, 1) := by decide +kernel
theorem dX0_tire_15 : decode cX0_tire 15 = .ok (.iaload, 1) := by decide +kernel
theorem dX0_tire_16 : decode cX0_tire 16 = .ok (.bipush 8, 2) := by decide +kernel
theorem dX0_tire_18 : decode cX0_tire 18 = .ok (.idiv, 1) := by decide +kernel
theorem dX0_tire_19 : decode cX0_tire 19 = .ok (.istore_n 2, 1) := by decide +kernel
theorem dX0_tire_20 : decode cX0_tire 20 = .ok (.aload_n 0, 1) := by decide +kernel
theorem dX0_tire_21 : decode cX0_tire 21 = .ok (.getfield 9, 3) := by decide +kernel
theorem dX0_tire_24 : decode cX0_tire 24 = .ok (.iload_n 1, 1) := by decide +kernel
theorem dX0_tire_25 : decode cX0_tire 25 = .ok (.iaload, 1) := by decide +kernel
theorem dX0_tire_26 : decode cX0_tire 26 = .ok (.istore_n 3, 1) := by decide +kernel
theorem dX0_tire_27 : decode cX0_tire 27 = .ok (.iload_n 3, 1) := by decide +kernel
theorem dX0_tire_28 : decode cX0_tire 28 = .ok (.ifCond .lt 37, 3) := by decide +kernel
theorem dX0_tire_31 : decode cX0_tire 31 = .ok (.iload_n 3, 1) := by decide +kernel
theorem dX0_tire_32 : decode cX0_tire 32 = .ok (.bipush 8, 2) := by decide +kernel
theorem dX0_tire_34 : decode cX0_tire 34 = .ok (.if_icmp .ge 31, 3) := by decide +kernel
theorem dX0_tire_37 : decode cX0_tire 37 = .ok (.aload_n 0, 1) := by decide +kernel
theorem dX0_tire_38 : decode cX0_tire 38 = .ok (.getfield 15, 3) := by decide +kernel
theorem dX0_tire_41 : decode cX0_tire 41 = .ok (.iload_n 3, 1) := by decide +kernel
theorem dX0_tire_42 : decode cX0_tire 42 = .ok (.dup2, 1) := by decide +kernel
theorem dX0_tire_43 : decode cX0_tire 43 = .ok (.iaload, 1) := by decide +kernel
theorem dX0_tire_44 : decode cX0_tire 44 = .ok (.aload_n 0, 1) := by decide +kernel
theorem dX0_tire_45 : decode cX0_tire 45 = .ok (.getfield 25, 3) := by decide +kernel
theorem dX0_tire_48 : decode cX0_tire 48 = .ok (.iload_n 3, 1) := by decide +kernel
theorem dX0_tire_49 : decode cX0_tire 49 = .ok (.invokevirtual 42, 3) := by decide +kernel
theorem dX0_tire_52 : decode cX0_tire 52 = .ok (.iconst 2, 1) := by decide +kernel
theorem dX0_tire_53 : decode cX0_tire 53 = .ok (.if_icmp .ne 9, 3) := by decide +kernel
theorem dX0_tire_56 : decode cX0_tire 56 = .ok (.iconst 2, 1) := by decide +kernel
theorem dX0_tire_57 : decode cX0_tire 57 = .ok (.iload_n 2, 1) := by decide +kernel
theorem dX0_tire_58 : decode cX0_tire 58 = .ok (.imul, 1) := by decide +kernel
theorem dX0_tire_59 : decode cX0_tire 59 = .ok (.goto 4, 3) := by decide +kernel
theorem dX0_tire_62 : decode cX0_tire 62 = .ok (.iload_n 2, 1) := by decide +kernel
theorem dX0_tire_63 : decode cX0_tire 63 = .ok (.iadd, 1) := by decide +kernel
theorem dX0_tire_64 : decode cX0_tire 64 = .ok (.iastore, 1) := by decide +kernel
theorem dX0_tire_65 : decode cX0_tire 65 = .ok (.iinc 1 1, 3) := by decide +kernel
theorem dX0_tire_68 : decode cX0_tire 68 = .ok (.goto (-66), 3) := by decide +kernel
theorem dX0_tire_71 : decode cX0_tire 71 = .ok (.return_, 1) := by decide +kernel
theorem hd_X0_tire : yX0_tire.cls = RX0 ∧ yX0_tire.cls ≠ "java/lang/invoke/MethodHandle" ∧ yX0_tire.cls ≠ "java/lang/invoke/VarHandle" ∧ (parseMethodDescriptor yX0_tire.desc).map (fun d => d.parameters.length) = some 0 := by decide +kernel
abbrev rm_X0_tire : Room := { frames := 1, cells := 0, slots := 0, locals := 21 }
def wp_X0_tire_65 (K : HF → Prop) (L2 : HF → Int32 → Prop) (b : Nat) (F : HF) (v1 : Int32) : Prop := L2 F (v1 + (1))
set_option maxRecDepth 100000 in
set_option maxHeartbeats 4000000 in
theorem k_X0_tire_65 {p : Program} {l : Launch} {e : Env} {s : State} {m : MethodId} {args : Array Value} {below : List Frame} {meth : Method} {c : Code} {D : va_G} {dA : Nat → ClassId} {ad : Nat → Nat} {R : List Nat} {A : Nat → Prop} {K : HF → Prop} {L2 : HF → Int32 → Prop} {b : Nat} (X : Cx p s m args meth c cX0_tire 4 RX0 D dA) (hA : ∀ q, s.heap.size ≤ q → A q) (hr : meth.sig.returnType = none) (hT : Br R b) (hL2 : ∀ (F : HF) (v1 : Int32), L2 F v1 → J p l e rm_X0_tire s m args below meth c 4 D dA ad R A (QV D dA ad R A below args s K) F 2 [(0, .ref (ad b)), (1, .int v1)] []) : ∀ (F : HF) (v1 : Int32), wp_X0_tire_65 K L2 b F v1 → J p l e rm_X0_tire s m args below meth c 4 D dA ad R A (QV D dA ad R A below args s K) F 65 [(0, .ref (ad b)), (1, .int v1)] [] := by
  intro F v1 h
  unfold wp_X0_tire_65 at h
  refine r_iinc (pc := 65) (v := (v1 + (1))) X 1 [(1, .int (v1 + (1))), (0, .ref (ad b))] dX0_tire_65 rfl rfl (by decide) rfl ?_
  refine r_goto (pc := 68) (tgt := 2) X dX0_tire_68 (by decide) ?_
  refine r_sub [1, 0] rfl ?_
  exact hL2 _ _ h
def wp_X0_tire_63 (K : HF → Prop) (L2 : HF → Int32 → Prop) (b : Nat) (F : HF) (v1 : Int32) (s1 : Int32) (s2 : Int32) (s3 : Int32) : Prop := (vp_in s1 8) ∧ (∀ F302 : HF, F302 = hup F (b + 2) s1.toNatClampNeg (s2 + s3) → (wp_X0_tire_65 K L2 b  F302 v1))
set_option maxRecDepth 100000 in
set_option maxHeartbeats 4000000 in
theorem k_X0_tire_63 {p : Program} {l : Launch} {e : Env} {s : State} {m : MethodId} {args : Array Value} {below : List Frame} {meth : Method} {c : Code} {D : va_G} {dA : Nat → ClassId} {ad : Nat → Nat} {R : List Nat} {A : Nat → Prop} {K : HF → Prop} {L2 : HF → Int32 → Prop} {b : Nat} (X : Cx p s m args meth c cX0_tire 4 RX0 D dA) (hA : ∀ q, s.heap.size ≤ q → A q) (hr : meth.sig.returnType = none) (hT : Br R b) (hL2 : ∀ (F : HF) (v1 : Int32), L2 F v1 → J p l e rm_X0_tire s m args below meth c 4 D dA ad R A (QV D dA ad R A below args s K) F 2 [(0, .ref (ad b)), (1, .int v1)] []) : ∀ (F : HF) (v1 : Int32) (s1 : Int32) (s2 : Int32) (s3 : Int32), wp_X0_tire_63 K L2 b F v1 s1 s2 s3 → J p l e rm_X0_tire s m args below meth c 4 D dA ad R A (QV D dA ad R A below args s K) F 63 [(0, .ref (ad b)), (1, .int v1)] [.int s3, .int s2, .int s1, .ref (ad (b + 2))] := by
  intro F v1 s1 s2 s3 h
  unfold wp_X0_tire_63 at h
  refine r_iadd (pc := 63) X dX0_tire_63 ?_
  refine r_iast (pc := 64) X hT.2.2.1 h.1 dX0_tire_64 (fun F302 e1 => ?_)
  replace h := h.2 F302 e1
  exact k_X0_tire_65 X hA hr hT hL2 _ _ h
def wp_X0_tire_2 (K : HF → Prop) (b : Nat) : Nat → HF → Int32 → Prop
  | 0 => fun _ _ => False
  | n_ + 1 => fun F v1 => (((F b 4) ≤ v1) → (K F)) ∧ ((¬ (F b 4) ≤ v1) → ((vp_in v1 8) ∧ ((vp_in v1 8) ∧ ((((F (b + 1) v1.toNatClampNeg) < 0) → (wp_X0_tire_65 K (wp_X0_tire_2 K b n_) b  F v1)) ∧ ((¬ (F (b + 1) v1.toNatClampNeg) < 0) → ((((8 : Int32) ≤ (F (b + 1) v1.toNatClampNeg)) → (wp_X0_tire_65 K (wp_X0_tire_2 K b n_) b  F v1)) ∧ ((¬ (8 : Int32) ≤ (F (b + 1) v1.toNatClampNeg)) → ((vp_in (F (b + 1) v1.toNatClampNeg) 8) ∧ (wp_X1_kindOf (fun x1 F201 => ((¬ x1 = (2 : Int32)) → (wp_X0_tire_63 K (wp_X0_tire_2 K b n_) b  F201 v1 (F (b + 1) v1.toNatClampNeg) (F (b + 2) (F (b + 1) v1.toNatClampNeg).toNatClampNeg) ((F (b + 3) v1.toNatClampNeg) / (8 : Int32)))) ∧ ((x1 = (2 : Int32)) → (wp_X0_tire_63 K (wp_X0_tire_2 K b n_) b  F201 v1 (F (b + 1) v1.toNatClampNeg) (F (b + 2) (F (b + 1) v1.toNatClampNeg).toNatClampNeg) ((2 : Int32) * ((F (b + 3) v1.toNatClampNeg) / (8 : Int32)))))) F 4 (F (b + 1) v1.toNatClampNeg))))))))))
set_option maxRecDepth 100000 in
set_option maxHeartbeats 4000000 in
theorem k_X0_tire_2 {p : Program} {l : Launch} {e : Env} {s : State} {m : MethodId} {args : Array Value} {below : List Frame} {meth : Method} {c : Code} {D : va_G} {dA : Nat → ClassId} {ad : Nat → Nat} {R : List Nat} {A : Nat → Prop} {K : HF → Prop} {b : Nat} (X : Cx p s m args meth c cX0_tire 4 RX0 D dA) (hA : ∀ q, s.heap.size ≤ q → A q) (hr : meth.sig.returnType = none) (hT : Br R b) : ∀ (n_ : Nat) (F : HF) (v1 : Int32), wp_X0_tire_2 K b n_ F v1 → J p l e rm_X0_tire s m args below meth c 4 D dA ad R A (QV D dA ad R A below args s K) F 2 [(0, .ref (ad b)), (1, .int v1)] [] := by
  intro n_
  induction n_ with
  | zero => intro F v1 h; exact h.elim
  | succ n_ ih =>
    intro F v1 h
    unfold wp_X0_tire_2 at h
    refine r_iload_n (pc := 2) X 1 dX0_tire_2 rfl rfl ?_
    refine r_aload_n (pc := 3) X 0 dX0_tire_3 rfl rfl ?_
    refine fg_X0_21 (pc := 4) X hT.1 dX0_tire_4 ?_
    refine r_icmp_ge (pc := 7) (tgt := 71) X dX0_tire_7 (by decide) (fun hc => ?_) (fun hc => ?_)
    · replace h := h.1 hc
      exact r_vret (pc := 71) X hr dX0_tire_71 h
    · replace h := h.2 hc
      refine r_aload_n (pc := 10) X 0 dX0_tire_10 rfl rfl ?_
      refine fg_X0_18 (pc := 11) X hT.1 dX0_tire_11 ?_
      refine r_iload_n (pc := 14) X 1 dX0_tire_14 rfl rfl ?_
      refine r_iald (pc := 15) X hT.2.2.2.1 h.1 dX0_tire_15 ?_
      replace h := h.2
      refine r_bipush (pc := 16) (v := (8 : Int32)) X dX0_tire_16 (by decide) ?_
      refine r_idiv (pc := 18) X dX0_tire_18 (by decide) ?_
      refine r_istore_n (pc := 19) X [(2, .int ((F (b + 3) v1.toNatClampNeg) / (8 : Int32))), (0, .ref (ad b)), (1, .int v1)] dX0_tire_19 rfl (by decide) rfl ?_
      refine r_aload_n (pc := 20) X 1 dX0_tire_20 rfl rfl ?_
      refine fg_X0_9 (pc := 21) X hT.1 dX0_tire_21 ?_
      refine r_iload_n (pc := 24) X 2 dX0_tire_24 rfl rfl ?_
      refine r_iald (pc := 25) X hT.2.1 h.1 dX0_tire_25 ?_
      replace h := h.2
      refine r_istore_n (pc := 26) X [(3, .int (F (b + 1) v1.toNatClampNeg)), (2, .int ((F (b + 3) v1.toNatClampNeg) / (8 : Int32))), (0, .ref (ad b)), (1, .int v1)] dX0_tire_26 rfl (by decide) rfl ?_
      refine r_iload_n (pc := 27) X 0 dX0_tire_27 rfl rfl ?_
      refine r_if_lt (pc := 28) (tgt := 65) X dX0_tire_28 (by decide) (fun hc => ?_) (fun hc => ?_)
      · replace h := h.1 hc
        refine r_sub [2, 3] rfl ?_
        exact k_X0_tire_65 X hA hr hT ih _ _ h
      · replace h := h.2 hc
        refine r_iload_n (pc := 31) X 0 dX0_tire_31 rfl rfl ?_
        refine r_bipush (pc := 32) (v := (8 : Int32)) X dX0_tire_32 (by decide) ?_
        refine r_icmp_ge (pc := 34) (tgt := 65) X dX0_tire_34 (by decide) (fun hc => ?_) (fun hc => ?_)
        · replace h := h.1 hc
          refine r_sub [2, 3] rfl ?_
          exact k_X0_tire_65 X hA hr hT ih _ _ h
        · replace h := h.2 hc
          refine r_aload_n (pc := 37) X 2 dX0_tire_37 rfl rfl ?_
          refine fg_X0_15 (pc := 38) X hT.1 dX0_tire_38 ?_
          refine r_iload_n (pc := 41) X 0 dX0_tire_41 rfl rfl ?_
          refine r_dup2 (pc := 42) X dX0_tire_42 rfl rfl ?_
          refine r_iald (pc := 43) X hT.2.2.1 h.1 dX0_tire_43 ?_
          replace h := h.2
          refine r_aload_n (pc := 44) X 2 dX0_tire_44 rfl rfl ?_
          refine fg_X0_25 (pc := 45) X hT.1 dX0_tire_45 ?_
          refine r_iload_n (pc := 48) X 0 dX0_tire_48 rfl rfl ?_
          refine r_callIV (pc := 49) (As := [.int (F (b + 1) v1.toNatClampNeg)]) (st := [.int (F (b + 2) (F (b + 1) v1.toNatClampNeg).toNatClampNeg), .int (F (b + 1) v1.toNatClampNeg), .ref (ad (b + 2))]) X hA (c_X1_kindOf hT.2.2.2.2 h) g_X0_42 cl_X1 hT.2.2.2.2.1 hd_X1_kindOf rfl rfl rfl ⟨Nat.le_of_ble_eq_true rfl, Nat.le_of_ble_eq_true rfl⟩ rfl (Nat.le_of_ble_eq_true rfl) dX0_tire_49 (fun x1 F201 h => ?_)
          refine r_iconst (pc := 52) (v := (2 : Int32)) X dX0_tire_52 (by decide) ?_
          refine r_icmp_ne (pc := 53) (tgt := 62) X dX0_tire_53 (by decide) (fun hc => ?_) (fun hc => ?_)
          · replace h := h.1 hc
            refine r_iload_n (pc := 62) X 1 dX0_tire_62 rfl rfl ?_
            refine r_sub [2, 3] rfl ?_
            exact k_X0_tire_63 X hA hr hT ih _ _ _ _ _ h
          · replace h := h.2 hc
            refine r_iconst (pc := 56) (v := (2 : Int32)) X dX0_tire_56 (by decide) ?_
            refine r_iload_n (pc := 57) X 1 dX0_tire_57 rfl rfl ?_
            refine r_imul (pc := 58) X dX0_tire_58 ?_
            refine r_goto (pc := 59) (tgt := 63) X dX0_tire_59 (by decide) ?_
            refine r_sub [2, 3] rfl ?_
            exact k_X0_tire_63 X hA hr hT ih _ _ _ _ _ h
def wp_X0_tire (K : HF → Prop) (F : HF) (b : Nat) : Prop := ∃ n_, wp_X0_tire_2 K b  n_ F (0 : Int32)
set_option maxRecDepth 100000 in
set_option maxHeartbeats 4000000 in
theorem c_X0_tire {l : Launch} {D : va_G} {dA : Nat → ClassId} {ad : Nat → Nat} {R : List Nat} {F : HF} {b : Nat} {K : HF → Prop} (hT : Br R b) (h : wp_X0_tire K F b) : MV l yX0_tire cX0_tire 4 rm_X0_tire D dA ad R F [.ref (ad b)] K := by
  refine MV.of (own := RX0) (by decide) rfl (Nat.le_of_ble_eq_true rfl) ?_
  intro p e s m args below meth c A hA X hr
  unfold wp_X0_tire at h
  show J p l e rm_X0_tire s m args below meth c 4 D dA ad R A (QV D dA ad R A below args s K) F 0 [(0, .ref (ad b))] []
  refine r_iconst (pc := 0) (v := (0 : Int32)) X dX0_tire_0 (by decide) ?_
  refine r_istore_n (pc := 1) X [(1, .int (0 : Int32)), (0, .ref (ad b))] dX0_tire_1 rfl (by decide) rfl ?_
  refine r_sub [1, 0] rfl ?_
  obtain ⟨n1, h⟩ := h
  exact k_X0_tire_2 X hA hr hT  n1 _ _ h
theorem dX0_settle_0 : decode cX0_settle 0 = .ok (.iconst 0, 1) := by decide +kernel
theorem dX0_settle_1 : decode cX0_settle 1 = .ok (.istore_n 1, 1) := by decide +kernel
theorem dX0_settle_2 : decode cX0_settle 2 = .ok (.iload_n 1, 1) := by decide +kernel
theorem dX0_settle_3 : decode cX0_settle 3 = .ok (.aload_n 0, 1) := by decide +kernel
theorem dX0_settle_4 : decode cX0_settle 4 = .ok (.getfield 21, 3) := by decide +kernel
theorem dX0_settle_7 : decode cX0_settle 7 = .ok (.if_icmp .ge 25, 3) := by decide +kernel
theorem dX0_settle_10 : decode cX0_settle 10 = .ok (.aload_n 0, 1) := by decide +kernel
theorem dX0_settle_11 : decode cX0_settle 11 = .ok (.getfield 18, 3) := by decide +kernel
theorem dX0_settle_14 : decode cX0_settle 14 = .ok (.iload_n 1, 1) := by decide +kernel
theorem dX0_settle_15 : decode cX0_settle 15 = .ok (.iaload, 1) := by decide +kernel
theorem dX0_settle_16 : decode cX0_settle 16 = .ok (.aload_n 0, 1) := by decide +kernel
theorem dX0_settle_17 : decode cX0_settle 17 = .ok (.iload_n 1, 1) := by decide +kernel
theorem dX0_settle_18 : decode cX0_settle 18 = .ok (.invokevirtual 99, 3) := by decide +kernel
theorem dX0_settle_21 : decode cX0_settle 21 = .ok (.if_icmp .le 5, 3) := by decide +kernel
theorem dX0_settle_24 : decode cX0_settle 24 = .ok (.iconst 0, 1) := by decide +kernel
theorem dX0_settle_25 : decode cX0_settle 25 = .ok (.ireturn, 1) := by decide +kernel
theorem dX0_settle_26 : decode cX0_settle 26 = .ok (.iinc 1 1, 3) := by decide +kernel
theorem dX0_settle_29 : decode cX0_settle 29 = .ok (.goto (-27), 3) := by decide +kernel
theorem dX0_settle_32 : decode cX0_settle 32 = .ok (.aload_n 0, 1) := by decide +kernel
theorem dX0_settle_33 : decode cX0_settle 33 = .ok (.invokevirtual 102, 3) := by decide +kernel
theorem dX0_settle_36 : decode cX0_settle 36 = .ok (.iconst 1, 1) := by decide +kernel
theorem dX0_settle_37 : decode cX0_settle 37 = .ok (.ireturn, 1) := by decide +kernel
theorem hd_X0_settle : yX0_settle.cls = RX0 ∧ yX0_settle.cls ≠ "java/lang/invoke/MethodHandle" ∧ yX0_settle.cls ≠ "java/lang/invoke/VarHandle" ∧ (parseMethodDescriptor yX0_settle.desc).map (fun d => d.parameters.length) = some 0 := by decide +kernel
abbrev rm_X0_settle : Room := { frames := 3, cells := 0, slots := 0, locals := 66 }
def wp_X0_settle_2 (K : Int32 → HF → Prop) (b : Nat) : Nat → HF → Int32 → Prop
  | 0 => fun _ _ => False
  | n_ + 1 => fun F v1 => (((F b 4) ≤ v1) → (wp_X0_tire (fun F101 => K (1 : Int32) F101) F b)) ∧ ((¬ (F b 4) ≤ v1) → ((vp_in v1 8) ∧ (wp_X0_powerAt (fun x1 F102 => (((F (b + 3) v1.toNatClampNeg) ≤ x1) → (wp_X0_settle_2 K b  n_ F102 (v1 + (1)))) ∧ ((¬ (F (b + 3) v1.toNatClampNeg) ≤ x1) → (K (0 : Int32) F102))) F b v1)))
set_option maxRecDepth 100000 in
set_option maxHeartbeats 4000000 in
theorem k_X0_settle_2 {p : Program} {l : Launch} {e : Env} {s : State} {m : MethodId} {args : Array Value} {below : List Frame} {meth : Method} {c : Code} {D : va_G} {dA : Nat → ClassId} {ad : Nat → Nat} {R : List Nat} {A : Nat → Prop} {K : Int32 → HF → Prop} {b : Nat} (X : Cx p s m args meth c cX0_settle 2 RX0 D dA) (hA : ∀ q, s.heap.size ≤ q → A q) (hr : meth.sig.returnType = some .boolean) (hT : Br R b) : ∀ (n_ : Nat) (F : HF) (v1 : Int32), wp_X0_settle_2 K b n_ F v1 → J p l e rm_X0_settle s m args below meth c 2 D dA ad R A (QI D dA ad R A below args s K) F 2 [(0, .ref (ad b)), (1, .int v1)] [] := by
  intro n_
  induction n_ with
  | zero => intro F v1 h; exact h.elim
  | succ n_ ih =>
    intro F v1 h
    unfold wp_X0_settle_2 at h
    refine r_iload_n (pc := 2) X 1 dX0_settle_2 rfl rfl ?_
    refine r_aload_n (pc := 3) X 0 dX0_settle_3 rfl rfl ?_
    refine fg_X0_21 (pc := 4) X hT.1 dX0_settle_4 ?_
    refine r_icmp_ge (pc := 7) (tgt := 32) X dX0_settle_7 (by decide) (fun hc => ?_) (fun hc => ?_)
    · replace h := h.1 hc
      refine r_aload_n (pc := 32) X 0 dX0_settle_32 rfl rfl ?_
      refine r_callVV (pc := 33) (As := []) (st := []) X hA (c_X0_tire hT h) g_X0_102 cl_X0 hT.1 hd_X0_tire rfl rfl rfl ⟨Nat.le_of_ble_eq_true rfl, Nat.le_of_ble_eq_true rfl⟩ rfl (Nat.le_of_ble_eq_true rfl) dX0_settle_33 (fun F101 h => ?_)
      refine r_iconst (pc := 36) (v := (1 : Int32)) X dX0_settle_36 (by decide) ?_
      exact r_zret (pc := 37) X hr dX0_settle_37 nb1 h
    · replace h := h.2 hc
      refine r_aload_n (pc := 10) X 0 dX0_settle_10 rfl rfl ?_
      refine fg_X0_18 (pc := 11) X hT.1 dX0_settle_11 ?_
      refine r_iload_n (pc := 14) X 1 dX0_settle_14 rfl rfl ?_
      refine r_iald (pc := 15) X hT.2.2.2.1 h.1 dX0_settle_15 ?_
      replace h := h.2
      refine r_aload_n (pc := 16) X 0 dX0_settle_16 rfl rfl ?_
      refine r_iload_n (pc := 17) X 1 dX0_settle_17 rfl rfl ?_
      refine r_callIV (pc := 18) (As := [.int v1]) (st := [.int (F (b + 3) v1.toNatClampNeg)]) X hA (c_X0_powerAt hT h) g_X0_99 cl_X0 hT.1 hd_X0_powerAt rfl rfl rfl ⟨Nat.le_of_ble_eq_true rfl, Nat.le_of_ble_eq_true rfl⟩ rfl (Nat.le_of_ble_eq_true rfl) dX0_settle_18 (fun x1 F102 h => ?_)
      refine r_icmp_le (pc := 21) (tgt := 26) X dX0_settle_21 (by decide) (fun hc => ?_) (fun hc => ?_)
      · replace h := h.1 hc
        refine r_iinc (pc := 26) (v := (v1 + (1))) X 1 [(1, .int (v1 + (1))), (0, .ref (ad b))] dX0_settle_26 rfl rfl (by decide) rfl ?_
        refine r_goto (pc := 29) (tgt := 2) X dX0_settle_29 (by decide) ?_
        refine r_sub [1, 0] rfl ?_
        exact ih _ _ h
      · replace h := h.2 hc
        refine r_iconst (pc := 24) (v := (0 : Int32)) X dX0_settle_24 (by decide) ?_
        exact r_zret (pc := 25) X hr dX0_settle_25 nb0 h
def wp_X0_settle (K : Int32 → HF → Prop) (F : HF) (b : Nat) : Prop := ∃ n_, wp_X0_settle_2 K b  n_ F (0 : Int32)
set_option maxRecDepth 100000 in
set_option maxHeartbeats 4000000 in
theorem c_X0_settle {l : Launch} {D : va_G} {dA : Nat → ClassId} {ad : Nat → Nat} {R : List Nat} {F : HF} {b : Nat} {K : Int32 → HF → Prop} (hT : Br R b) (h : wp_X0_settle K F b) : MI l yX0_settle cX0_settle 2 .boolean rm_X0_settle D dA ad R F [.ref (ad b)] K := by
  refine MI.of (own := RX0) (by decide) rfl (Nat.le_of_ble_eq_true rfl) ?_
  intro p e s m args below meth c A hA X hr
  unfold wp_X0_settle at h
  show J p l e rm_X0_settle s m args below meth c 2 D dA ad R A (QI D dA ad R A below args s K) F 0 [(0, .ref (ad b))] []
  refine r_iconst (pc := 0) (v := (0 : Int32)) X dX0_settle_0 (by decide) ?_
  refine r_istore_n (pc := 1) X [(1, .int (0 : Int32)), (0, .ref (ad b))] dX0_settle_1 rfl (by decide) rfl ?_
  refine r_sub [1, 0] rfl ?_
  obtain ⟨n1, h⟩ := h
  exact k_X0_settle_2 X hA hr hT  n1 _ _ h
theorem dX0_walk_0 : decode cX0_walk 0 = .ok (.iload_n 1, 1) := by decide +kernel
theorem dX0_walk_1 : decode cX0_walk 1 = .ok (.istore 5, 2) := by decide +kernel
theorem dX0_walk_3 : decode cX0_walk 3 = .ok (.iload 5, 2) := by decide +kernel
theorem dX0_walk_5 : decode cX0_walk 5 = .ok (.iload_n 2, 1) := by decide +kernel
theorem dX0_walk_6 : decode cX0_walk 6 = .ok (.if_icmp .ge 41, 3) := by decide +kernel
theorem dX0_walk_9 : decode cX0_walk 9 = .ok (.aload_n 0, 1) := by decide +kernel
theorem dX0_walk_10 : decode cX0_walk 10 = .ok (.iload 5, 2) := by decide +kernel
theorem dX0_walk_12 : decode cX0_walk 12 = .ok (.iload 4, 2) := by decide +kernel
theorem dX0_walk_14 : decode cX0_walk 14 = .ok (.aload_n 0, 1) := by decide +kernel
theorem dX0_walk_15 : decode cX0_walk 15 = .ok (.getfield 25, 3) := by decide +kernel
theorem dX0_walk_18 : decode cX0_walk 18 = .ok (.iload_n 3, 1) := by decide +kernel
theorem dX0_walk_19 : decode cX0_walk 19 = .ok (.iload 5, 2) := by decide +kernel
theorem dX0_walk_21 : decode cX0_walk 21 = .ok (.iadd, 1) := by decide +kernel
theorem dX0_walk_22 : decode cX0_walk 22 = .ok (.iload_n 1, 1) := by decide +kernel
theorem dX0_walk_23 : decode cX0_walk 23 = .ok (.isub, 1) := by decide +kernel
theorem dX0_walk_24 : decode cX0_walk 24 = .ok (.invokevirtual 105, 3) := by decide +kernel
theorem dX0_walk_27 : decode cX0_walk 27 = .ok (.iadd, 1) := by decide +kernel
theorem dX0_walk_28 : decode cX0_walk 28 = .ok (.invokevirtual 108, 3) := by decide +kernel
theorem dX0_walk_31 : decode cX0_walk 31 = .ok (.aload_n 0, 1) := by decide +kernel
theorem dX0_walk_32 : decode cX0_walk 32 = .ok (.invokevirtual 111, 3) := by decide +kernel
theorem dX0_walk_35 : decode cX0_walk 35 = .ok (.ifCond .ne 6, 3) := by decide +kernel
theorem dX0_walk_38 : decode cX0_walk 38 = .ok (.iload 5, 2) := by decide +kernel
theorem dX0_walk_40 : decode cX0_walk 40 = .ok (.ireturn, 1) := by decide +kernel
theorem dX0_walk_41 : decode cX0_walk 41 = .ok (.iinc 5 1, 3) := by decide +kernel
theorem dX0_walk_44 : decode cX0_walk 44 = .ok (.goto (-41), 3) := by decide +kernel
theorem dX0_walk_47 : decode cX0_walk 47 = .ok (.iload_n 2, 1) := by decide +kernel
theorem dX0_walk_48 : decode cX0_walk 48 = .ok (.ireturn, 1) := by decide +kernel
theorem hd_X0_walk : yX0_walk.cls = RX0 ∧ yX0_walk.cls ≠ "java/lang/invoke/MethodHandle" ∧ yX0_walk.cls ≠ "java/lang/invoke/VarHandle" ∧ (parseMethodDescriptor yX0_walk.desc).map (fun d => d.parameters.length) = some 4 := by decide +kernel
abbrev rm_X0_walk : Room := { frames := 4, cells := 0, slots := 0, locals := 91 }
def wp_X0_walk_3 (K : Int32 → HF → Prop) (b : Nat) : Nat → HF → Int32 → Int32 → Int32 → Int32 → Int32 → Prop
  | 0 => fun _ _ _ _ _ _ => False
  | n_ + 1 => fun F v1 v2 v3 v4 v5 => ((v2 ≤ v5) → (K v2 F)) ∧ ((¬ v2 ≤ v5) → (wp_X1_windIn (fun x1 F101 => wp_X0_loadAlone (fun F102 => wp_X0_settle (fun x2 F103 => ((¬ x2 = 0) → (wp_X0_walk_3 K b  n_ F103 v1 v2 v3 v4 (v5 + (1)))) ∧ ((x2 = 0) → (K v5 F103))) F102 b) F101 b v5 (v4 + x1)) F 4 ((v3 + v5) - v1)))
set_option maxRecDepth 100000 in
set_option maxHeartbeats 4000000 in
theorem k_X0_walk_3 {p : Program} {l : Launch} {e : Env} {s : State} {m : MethodId} {args : Array Value} {below : List Frame} {meth : Method} {c : Code} {D : va_G} {dA : Nat → ClassId} {ad : Nat → Nat} {R : List Nat} {A : Nat → Prop} {K : Int32 → HF → Prop} {b : Nat} (X : Cx p s m args meth c cX0_walk 6 RX0 D dA) (hA : ∀ q, s.heap.size ≤ q → A q) (hr : meth.sig.returnType = some .int) (hT : Br R b) : ∀ (n_ : Nat) (F : HF) (v1 : Int32) (v2 : Int32) (v3 : Int32) (v4 : Int32) (v5 : Int32), wp_X0_walk_3 K b n_ F v1 v2 v3 v4 v5 → J p l e rm_X0_walk s m args below meth c 6 D dA ad R A (QI D dA ad R A below args s K) F 3 [(0, .ref (ad b)), (1, .int v1), (2, .int v2), (3, .int v3), (4, .int v4), (5, .int v5)] [] := by
  intro n_
  induction n_ with
  | zero => intro F v1 v2 v3 v4 v5 h; exact h.elim
  | succ n_ ih =>
    intro F v1 v2 v3 v4 v5 h
    unfold wp_X0_walk_3 at h
    refine r_iload (pc := 3) X 5 dX0_walk_3 rfl ?_
    refine r_iload_n (pc := 5) X 2 dX0_walk_5 rfl rfl ?_
    refine r_icmp_ge (pc := 6) (tgt := 47) X dX0_walk_6 (by decide) (fun hc => ?_) (fun hc => ?_)
    · replace h := h.1 hc
      refine r_iload_n (pc := 47) X 2 dX0_walk_47 rfl rfl ?_
      exact r_iret (pc := 48) X hr dX0_walk_48 h
    · replace h := h.2 hc
      refine r_aload_n (pc := 9) X 0 dX0_walk_9 rfl rfl ?_
      refine r_iload (pc := 10) X 5 dX0_walk_10 rfl ?_
      refine r_iload (pc := 12) X 4 dX0_walk_12 rfl ?_
      refine r_aload_n (pc := 14) X 0 dX0_walk_14 rfl rfl ?_
      refine fg_X0_25 (pc := 15) X hT.1 dX0_walk_15 ?_
      refine r_iload_n (pc := 18) X 3 dX0_walk_18 rfl rfl ?_
      refine r_iload (pc := 19) X 5 dX0_walk_19 rfl ?_
      refine r_iadd (pc := 21) X dX0_walk_21 ?_
      refine r_iload_n (pc := 22) X 1 dX0_walk_22 rfl rfl ?_
      refine r_isub (pc := 23) X dX0_walk_23 ?_
      refine r_callIV (pc := 24) (As := [.int ((v3 + v5) - v1)]) (st := [.int v4, .int v5, .ref (ad b)]) X hA (c_X1_windIn hT.2.2.2.2 h) g_X0_105 cl_X1 hT.2.2.2.2.1 hd_X1_windIn rfl rfl rfl ⟨Nat.le_of_ble_eq_true rfl, Nat.le_of_ble_eq_true rfl⟩ rfl (Nat.le_of_ble_eq_true rfl) dX0_walk_24 (fun x1 F101 h => ?_)
      refine r_iadd (pc := 27) X dX0_walk_27 ?_
      refine r_callVV (pc := 28) (As := [.int v5, .int (v4 + x1)]) (st := []) X hA (c_X0_loadAlone hT h) g_X0_108 cl_X0 hT.1 hd_X0_loadAlone rfl rfl rfl ⟨Nat.le_of_ble_eq_true rfl, Nat.le_of_ble_eq_true rfl⟩ rfl (Nat.le_of_ble_eq_true rfl) dX0_walk_28 (fun F102 h => ?_)
      refine r_aload_n (pc := 31) X 0 dX0_walk_31 rfl rfl ?_
      refine r_callIV (pc := 32) (As := []) (st := []) X hA (c_X0_settle hT h) g_X0_111 cl_X0 hT.1 hd_X0_settle rfl rfl rfl ⟨Nat.le_of_ble_eq_true rfl, Nat.le_of_ble_eq_true rfl⟩ rfl (Nat.le_of_ble_eq_true rfl) dX0_walk_32 (fun x2 F103 h => ?_)
      refine r_if_ne (pc := 35) (tgt := 41) X dX0_walk_35 (by decide) (fun hc => ?_) (fun hc => ?_)
      · replace h := h.1 hc
        refine r_iinc (pc := 41) (v := (v5 + (1))) X 5 [(5, .int (v5 + (1))), (0, .ref (ad b)), (1, .int v1), (2, .int v2), (3, .int v3), (4, .int v4)] dX0_walk_41 rfl rfl (by decide) rfl ?_
        refine r_goto (pc := 44) (tgt := 3) X dX0_walk_44 (by decide) ?_
        refine r_sub [1, 2, 3, 4, 5, 0] rfl ?_
        exact ih _ _ _ _ _ _ h
      · replace h := h.2 hc
        refine r_iload (pc := 38) X 5 dX0_walk_38 rfl ?_
        exact r_iret (pc := 40) X hr dX0_walk_40 h
def wp_X0_walk (K : Int32 → HF → Prop) (F : HF) (b : Nat) (a1 : Int32) (a2 : Int32) (a3 : Int32) (a4 : Int32) : Prop := ∃ n_, wp_X0_walk_3 K b  n_ F a1 a2 a3 a4 a1
set_option maxRecDepth 100000 in
set_option maxHeartbeats 4000000 in
theorem c_X0_walk {l : Launch} {D : va_G} {dA : Nat → ClassId} {ad : Nat → Nat} {R : List Nat} {F : HF} {b : Nat} {a1 : Int32} {a2 : Int32} {a3 : Int32} {a4 : Int32} {K : Int32 → HF → Prop} (hT : Br R b) (h : wp_X0_walk K F b a1 a2 a3 a4) : MI l yX0_walk cX0_walk 6 .int rm_X0_walk D dA ad R F [.ref (ad b), .int a1, .int a2, .int a3, .int a4] K := by
  refine MI.of (own := RX0) (by decide) rfl (Nat.le_of_ble_eq_true rfl) ?_
  intro p e s m args below meth c A hA X hr
  unfold wp_X0_walk at h
  show J p l e rm_X0_walk s m args below meth c 6 D dA ad R A (QI D dA ad R A below args s K) F 0 [(0, .ref (ad b)), (1, .int a1), (2, .int a2), (3, .int a3), (4, .int a4)] []
  refine r_iload_n (pc := 0) X 1 dX0_walk_0 rfl rfl ?_
  refine r_istore (pc := 1) X [(5, .int a1), (0, .ref (ad b)), (1, .int a1), (2, .int a2), (3, .int a3), (4, .int a4)] dX0_walk_1 (by decide) rfl ?_
  refine r_sub [1, 2, 3, 4, 5, 0] rfl ?_
  obtain ⟨n1, h⟩ := h
  exact k_X0_walk_3 X hA hr hT  n1 _ _ _ _ _ _ h
end
section
theorem dX3_length_0 : decode cX3_length 0 = .ok (.aload_n 0, 1) := by decide +kernel
theorem dX3_length_1 : decode cX3_length 1 = .ok (.getfield 19, 3) := by decide +kernel
theorem dX3_length_4 : decode cX3_length 4 = .ok (.ireturn, 1) := by decide +kernel
theorem hd_X3_length : yX3_length.cls = RX3 ∧ yX3_length.cls ≠ "java/lang/invoke/MethodHandle" ∧ yX3_length.cls ≠ "java/lang/invoke/VarHandle" ∧ (parseMethodDescriptor yX3_length.desc).map (fun d => d.parameters.length) = some 0 := by decide +kernel
abbrev rm_X3_length : Room := { frames := 0, cells := 0, slots := 0, locals := 0 }
def wp_X3_length (K : Int32 → HF → Prop) (F : HF) : Prop := K (F 1 2) F
set_option maxRecDepth 100000 in
set_option maxHeartbeats 4000000 in
theorem c_X3_length {l : Launch} {D : va_G} {dA : Nat → ClassId} {ad : Nat → Nat} {R : List Nat} {F : HF} {K : Int32 → HF → Prop} (hT : Sc R) (h : wp_X3_length K F ) : MI l yX3_length cX3_length 1 .int rm_X3_length D dA ad R F [.ref (ad 1)] K := by
  refine MI.of (own := RX3) (by decide) rfl (Nat.le_of_ble_eq_true rfl) ?_
  intro p e s m args below meth c A hA X hr
  unfold wp_X3_length at h
  show J p l e rm_X3_length s m args below meth c 1 D dA ad R A (QI D dA ad R A below args s K) F 0 [(0, .ref (ad 1))] []
  refine r_aload_n (pc := 0) X 0 dX3_length_0 rfl rfl ?_
  refine fg_X3_19 (pc := 1) X hT.1 dX3_length_1 ?_
  exact r_iret (pc := 4) X hr dX3_length_4 h
theorem dX3_clear_0 : decode cX3_clear 0 = .ok (.aload_n 0, 1) := by decide +kernel
theorem dX3_clear_1 : decode cX3_clear 1 = .ok (.iconst 0, 1) := by decide +kernel
theorem dX3_clear_2 : decode cX3_clear 2 = .ok (.putfield 19, 3) := by decide +kernel
theorem dX3_clear_5 : decode cX3_clear 5 = .ok (.return_, 1) := by decide +kernel
theorem hd_X3_clear : yX3_clear.cls = RX3 ∧ yX3_clear.cls ≠ "java/lang/invoke/MethodHandle" ∧ yX3_clear.cls ≠ "java/lang/invoke/VarHandle" ∧ (parseMethodDescriptor yX3_clear.desc).map (fun d => d.parameters.length) = some 0 := by decide +kernel
abbrev rm_X3_clear : Room := { frames := 0, cells := 0, slots := 0, locals := 0 }
def wp_X3_clear (K : HF → Prop) (F : HF) : Prop := ∀ F1 : HF, F1 = hup F 1 2 (0 : Int32) → (K F1)
set_option maxRecDepth 100000 in
set_option maxHeartbeats 4000000 in
theorem c_X3_clear {l : Launch} {D : va_G} {dA : Nat → ClassId} {ad : Nat → Nat} {R : List Nat} {F : HF} {K : HF → Prop} (hT : Sc R) (h : wp_X3_clear K F ) : MV l yX3_clear cX3_clear 1 rm_X3_clear D dA ad R F [.ref (ad 1)] K := by
  refine MV.of (own := RX3) (by decide) rfl (Nat.le_of_ble_eq_true rfl) ?_
  intro p e s m args below meth c A hA X hr
  unfold wp_X3_clear at h
  show J p l e rm_X3_clear s m args below meth c 1 D dA ad R A (QV D dA ad R A below args s K) F 0 [(0, .ref (ad 1))] []
  refine r_aload_n (pc := 0) X 0 dX3_clear_0 rfl rfl ?_
  refine r_iconst (pc := 1) (v := (0 : Int32)) X dX3_clear_1 (by decide) ?_
  refine fp_X3_19 (pc := 2) X hT.1 dX3_clear_2 (fun F1 e1 => ?_)
  replace h := h F1 e1
  exact r_vret (pc := 5) X hr dX3_clear_5 h
theorem dX3_append_0 : decode cX3_append 0 = .ok (.aload_n 0, 1) := by decide +kernel
theorem dX3_append_1 : decode cX3_append 1 = .ok (.getfield 19, 3) := by decide +kernel
theorem dX3_append_4 : decode cX3_append 4 = .ok (.aload_n 0, 1) := by decide +kernel
theorem dX3_append_5 : decode cX3_append 5 = .ok (.getfield 9, 3) := by decide +kernel
theorem dX3_append_8 : decode cX3_append 8 = .ok (.arraylength, 1) := by decide +kernel
theorem dX3_append_9 : decode cX3_append 9 = .ok (.if_icmp .lt 5, 3) := by decide +kernel
theorem dX3_append_12 : decode cX3_append 12 = .ok (.iconst 0, 1) := by decide +kernel
theorem dX3_append_13 : decode cX3_append 13 = .ok (.ireturn, 1) := by decide +kernel
theorem dX3_append_14 : decode cX3_append 14 = .ok (.aload_n 0, 1) := by decide +kernel
theorem dX3_append_15 : decode cX3_append 15 = .ok (.getfield 9, 3) := by decide +kernel
theorem dX3_append_18 : decode cX3_append 18 = .ok (.aload_n 0, 1) := by decide +kernel
theorem dX3_append_19 : decode cX3_append 19 = .ok (.getfield 19, 3) := by decide +kernel
theorem dX3_append_22 : decode cX3_append 22 = .ok (.iload_n 1, 1) := by decide +kernel
theorem dX3_append_23 : decode cX3_append 23 = .ok (.i2c, 1) := by decide +kernel
theorem dX3_append_24 : decode cX3_append 24 = .ok (.castore, 1) := by decide +kernel
theorem dX3_append_25 : decode cX3_append 25 = .ok (.aload_n 0, 1) := by decide +kernel
theorem dX3_append_26 : decode cX3_append 26 = .ok (.dup, 1) := by decide +kernel
theorem dX3_append_27 : decode cX3_append 27 = .ok (.getfield 19, 3) := by decide +kernel
theorem dX3_append_30 : decode cX3_append 30 = .ok (.iconst 1, 1) := by decide +kernel
theorem dX3_append_31 : decode cX3_append 31 = .ok (.iadd, 1) := by decide +kernel
theorem dX3_append_32 : decode cX3_append 32 = .ok (.putfield 19, 3) := by decide +kernel
theorem dX3_append_35 : decode cX3_append 35 = .ok (.iconst 1, 1) := by decide +kernel
theorem dX3_append_36 : decode cX3_append 36 = .ok (.ireturn, 1) := by decide +kernel
theorem hd_X3_append : yX3_append.cls = RX3 ∧ yX3_append.cls ≠ "java/lang/invoke/MethodHandle" ∧ yX3_append.cls ≠ "java/lang/invoke/VarHandle" ∧ (parseMethodDescriptor yX3_append.desc).map (fun d => d.parameters.length) = some 1 := by decide +kernel
abbrev rm_X3_append : Room := { frames := 0, cells := 0, slots := 0, locals := 0 }
def wp_X3_append (K : Int32 → HF → Prop) (F : HF) (a1 : Int32) : Prop := (((F 1 2) < (200 : Int32)) → ((vp_in (F 1 2) 200) ∧ (∀ F1 : HF, F1 = hup F 2 (F 1 2).toNatClampNeg (vp_nar .char ((a1).toUInt32 % 65536).toInt32) → (∀ F2 : HF, F2 = hup F1 1 2 ((F1 1 2) + (1 : Int32)) → (K (1 : Int32) F2))))) ∧ ((¬ (F 1 2) < (200 : Int32)) → (K (0 : Int32) F))
set_option maxRecDepth 100000 in
set_option maxHeartbeats 4000000 in
theorem c_X3_append {l : Launch} {D : va_G} {dA : Nat → ClassId} {ad : Nat → Nat} {R : List Nat} {F : HF} {a1 : Int32} {K : Int32 → HF → Prop} (hT : Sc R) (h : wp_X3_append K F a1) : MI l yX3_append cX3_append 2 .boolean rm_X3_append D dA ad R F [.ref (ad 1), .int a1] K := by
  refine MI.of (own := RX3) (by decide) rfl (Nat.le_of_ble_eq_true rfl) ?_
  intro p e s m args below meth c A hA X hr
  unfold wp_X3_append at h
  show J p l e rm_X3_append s m args below meth c 2 D dA ad R A (QI D dA ad R A below args s K) F 0 [(0, .ref (ad 1)), (1, .int a1)] []
  refine r_aload_n (pc := 0) X 0 dX3_append_0 rfl rfl ?_
  refine fg_X3_19 (pc := 1) X hT.1 dX3_append_1 ?_
  refine r_aload_n (pc := 4) X 0 dX3_append_4 rfl rfl ?_
  refine fg_X3_9 (pc := 5) X hT.1 dX3_append_5 ?_
  refine r_alen (pc := 8) (v := (200 : Int32)) X (Or.inr (Or.inl hT.2.1)) rfl dX3_append_8 ?_
  refine r_icmp_lt (pc := 9) (tgt := 14) X dX3_append_9 (by decide) (fun hc => ?_) (fun hc => ?_)
  · replace h := h.1 hc
    refine r_aload_n (pc := 14) X 0 dX3_append_14 rfl rfl ?_
    refine fg_X3_9 (pc := 15) X hT.1 dX3_append_15 ?_
    refine r_aload_n (pc := 18) X 0 dX3_append_18 rfl rfl ?_
    refine fg_X3_19 (pc := 19) X hT.1 dX3_append_19 ?_
    refine r_iload_n (pc := 22) X 1 dX3_append_22 rfl rfl ?_
    refine r_i2c (pc := 23) X dX3_append_23 rfl ?_
    refine r_cast (pc := 24) X hT.2.1 h.1 dX3_append_24 (fun F1 e1 => ?_)
    replace h := h.2 F1 e1
    refine r_aload_n (pc := 25) X 0 dX3_append_25 rfl rfl ?_
    refine r_dup (pc := 26) X dX3_append_26 rfl ?_
    refine fg_X3_19 (pc := 27) X hT.1 dX3_append_27 ?_
    refine r_iconst (pc := 30) (v := (1 : Int32)) X dX3_append_30 (by decide) ?_
    refine r_iadd (pc := 31) X dX3_append_31 ?_
    refine fp_X3_19 (pc := 32) X hT.1 dX3_append_32 (fun F2 e1 => ?_)
    replace h := h F2 e1
    refine r_iconst (pc := 35) (v := (1 : Int32)) X dX3_append_35 (by decide) ?_
    exact r_zret (pc := 36) X hr dX3_append_36 nb1 h
  · replace h := h.2 hc
    refine r_iconst (pc := 12) (v := (0 : Int32)) X dX3_append_12 (by decide) ?_
    exact r_zret (pc := 13) X hr dX3_append_13 nb0 h
theorem dX3_letterAt_0 : decode cX3_letterAt 0 = .ok (.iload_n 1, 1) := by decide +kernel
theorem dX3_letterAt_1 : decode cX3_letterAt 1 = .ok (.ifCond .lt 29, 3) := by decide +kernel
theorem dX3_letterAt_4 : decode cX3_letterAt 4 = .ok (.iload_n 1, 1) := by decide +kernel
theorem dX3_letterAt_5 : decode cX3_letterAt 5 = .ok (.aload_n 0, 1) := by decide +kernel
theorem dX3_letterAt_6 : decode cX3_letterAt 6 = .ok (.getfield 19, 3) := by decide +kernel
theorem dX3_letterAt_9 : decode cX3_letterAt 9 = .ok (.if_icmp .ge 21, 3) := by decide +kernel
theorem dX3_letterAt_12 : decode cX3_letterAt 12 = .ok (.iload_n 1, 1) := by decide +kernel
theorem dX3_letterAt_13 : decode cX3_letterAt 13 = .ok (.aload_n 0, 1) := by decide +kernel
theorem dX3_letterAt_14 : decode cX3_letterAt 14 = .ok (.getfield 9, 3) := by decide +kernel
theorem dX3_letterAt_17 : decode cX3_letterAt 17 = .ok (.arraylength, 1) := by decide +kernel
theorem dX3_letterAt_18 : decode cX3_letterAt 18 = .ok (.if_icmp .ge 12, 3) := by decide +kernel
theorem dX3_letterAt_21 : decode cX3_letterAt 21 = .ok (.aload_n 0, 1) := by decide +kernel
theorem dX3_letterAt_22 : decode cX3_letterAt 22 = .ok (.getfield 9, 3) := by decide +kernel
theorem dX3_letterAt_25 : decode cX3_letterAt 25 = .ok (.iload_n 1, 1) := by decide +kernel
theorem dX3_letterAt_26 : decode cX3_letterAt 26 = .ok (.caload, 1) := by decide +kernel
theorem dX3_letterAt_27 : decode cX3_letterAt 27 = .ok (.goto 4, 3) := by decide +kernel
theorem dX3_letterAt_30 : decode cX3_letterAt 30 = .ok (.iconst 0, 1) := by decide +kernel
theorem dX3_letterAt_31 : decode cX3_letterAt 31 = .ok (.ireturn, 1) := by decide +kernel
theorem hd_X3_letterAt : yX3_letterAt.cls = RX3 ∧ yX3_letterAt.cls ≠ "java/lang/invoke/MethodHandle" ∧ yX3_letterAt.cls ≠ "java/lang/invoke/VarHandle" ∧ (parseMethodDescriptor yX3_letterAt.desc).map (fun d => d.parameters.length) = some 1 := by decide +kernel
abbrev rm_X3_letterAt : Room := { frames := 0, cells := 0, slots := 0, locals := 0 }
def wp_X3_letterAt (K : Int32 → HF → Prop) (F : HF) (a1 : Int32) : Prop := ((a1 < 0) → ((narrow .char (.int (0 : Int32)) = .int (0 : Int32)) ∧ K (0 : Int32) F)) ∧ ((¬ a1 < 0) → ((((F 1 2) ≤ a1) → ((narrow .char (.int (0 : Int32)) = .int (0 : Int32)) ∧ K (0 : Int32) F)) ∧ ((¬ (F 1 2) ≤ a1) → ((((200 : Int32) ≤ a1) → ((narrow .char (.int (0 : Int32)) = .int (0 : Int32)) ∧ K (0 : Int32) F)) ∧ ((¬ (200 : Int32) ≤ a1) → ((vp_in a1 200) ∧ ((narrow .char (.int (F 2 a1.toNatClampNeg)) = .int (F 2 a1.toNatClampNeg)) ∧ K (F 2 a1.toNatClampNeg) F)))))))
set_option maxRecDepth 100000 in
set_option maxHeartbeats 4000000 in
theorem c_X3_letterAt {l : Launch} {D : va_G} {dA : Nat → ClassId} {ad : Nat → Nat} {R : List Nat} {F : HF} {a1 : Int32} {K : Int32 → HF → Prop} (hT : Sc R) (h : wp_X3_letterAt K F a1) : MI l yX3_letterAt cX3_letterAt 2 .char rm_X3_letterAt D dA ad R F [.ref (ad 1), .int a1] K := by
  refine MI.of (own := RX3) (by decide) rfl (Nat.le_of_ble_eq_true rfl) ?_
  intro p e s m args below meth c A hA X hr
  unfold wp_X3_letterAt at h
  show J p l e rm_X3_letterAt s m args below meth c 2 D dA ad R A (QI D dA ad R A below args s K) F 0 [(0, .ref (ad 1)), (1, .int a1)] []
  refine r_iload_n (pc := 0) X 1 dX3_letterAt_0 rfl rfl ?_
  refine r_if_lt (pc := 1) (tgt := 30) X dX3_letterAt_1 (by decide) (fun hc => ?_) (fun hc => ?_)
  · replace h := h.1 hc
    refine r_iconst (pc := 30) (v := (0 : Int32)) X dX3_letterAt_30 (by decide) ?_
    exact r_zret (pc := 31) X hr dX3_letterAt_31 h.1 h.2
  · replace h := h.2 hc
    refine r_iload_n (pc := 4) X 1 dX3_letterAt_4 rfl rfl ?_
    refine r_aload_n (pc := 5) X 0 dX3_letterAt_5 rfl rfl ?_
    refine fg_X3_19 (pc := 6) X hT.1 dX3_letterAt_6 ?_
    refine r_icmp_ge (pc := 9) (tgt := 30) X dX3_letterAt_9 (by decide) (fun hc => ?_) (fun hc => ?_)
    · replace h := h.1 hc
      refine r_iconst (pc := 30) (v := (0 : Int32)) X dX3_letterAt_30 (by decide) ?_
      exact r_zret (pc := 31) X hr dX3_letterAt_31 h.1 h.2
    · replace h := h.2 hc
      refine r_iload_n (pc := 12) X 1 dX3_letterAt_12 rfl rfl ?_
      refine r_aload_n (pc := 13) X 0 dX3_letterAt_13 rfl rfl ?_
      refine fg_X3_9 (pc := 14) X hT.1 dX3_letterAt_14 ?_
      refine r_alen (pc := 17) (v := (200 : Int32)) X (Or.inr (Or.inl hT.2.1)) rfl dX3_letterAt_17 ?_
      refine r_icmp_ge (pc := 18) (tgt := 30) X dX3_letterAt_18 (by decide) (fun hc => ?_) (fun hc => ?_)
      · replace h := h.1 hc
        refine r_iconst (pc := 30) (v := (0 : Int32)) X dX3_letterAt_30 (by decide) ?_
        exact r_zret (pc := 31) X hr dX3_letterAt_31 h.1 h.2
      · replace h := h.2 hc
        refine r_aload_n (pc := 21) X 0 dX3_letterAt_21 rfl rfl ?_
        refine fg_X3_9 (pc := 22) X hT.1 dX3_letterAt_22 ?_
        refine r_iload_n (pc := 25) X 1 dX3_letterAt_25 rfl rfl ?_
        refine r_cald (pc := 26) X hT.2.1 h.1 dX3_letterAt_26 ?_
        replace h := h.2
        refine r_goto (pc := 27) (tgt := 31) X dX3_letterAt_27 (by decide) ?_
        exact r_zret (pc := 31) X hr dX3_letterAt_31 h.1 h.2
theorem dX3_isFigure_0 : decode cX3_isFigure 0 = .ok (.iload_n 0, 1) := by decide +kernel
theorem dX3_isFigure_1 : decode cX3_isFigure 1 = .ok (.bipush 48, 2) := by decide +kernel
theorem dX3_isFigure_3 : decode cX3_isFigure 3 = .ok (.if_icmp .lt 13, 3) := by decide +kernel
theorem dX3_isFigure_6 : decode cX3_isFigure 6 = .ok (.iload_n 0, 1) := by decide +kernel
theorem dX3_isFigure_7 : decode cX3_isFigure 7 = .ok (.bipush 57, 2) := by decide +kernel
theorem dX3_isFigure_9 : decode cX3_isFigure 9 = .ok (.if_icmp .gt 7, 3) := by decide +kernel
theorem dX3_isFigure_12 : decode cX3_isFigure 12 = .ok (.iconst 1, 1) := by decide +kernel
theorem dX3_isFigure_13 : decode cX3_isFigure 13 = .ok (.goto 4, 3) := by decide +kernel
theorem dX3_isFigure_16 : decode cX3_isFigure 16 = .ok (.iconst 0, 1) := by decide +kernel
theorem dX3_isFigure_17 : decode cX3_isFigure 17 = .ok (.ireturn, 1) := by decide +kernel
theorem hd_X3_isFigure : yX3_isFigure.cls = RX3 ∧ yX3_isFigure.cls ≠ "java/lang/invoke/MethodHandle" ∧ yX3_isFigure.cls ≠ "java/lang/invoke/VarHandle" ∧ (parseMethodDescriptor yX3_isFigure.desc).map (fun d => d.parameters.length) = some 1 := by decide +kernel
abbrev rm_X3_isFigure : Room := { frames := 0, cells := 0, slots := 0, locals := 0 }
def wp_X3_isFigure (K : Int32 → HF → Prop) (F : HF) (a1 : Int32) : Prop := ((a1 < (48 : Int32)) → (K (0 : Int32) F)) ∧ ((¬ a1 < (48 : Int32)) → ((((57 : Int32) < a1) → (K (0 : Int32) F)) ∧ ((¬ (57 : Int32) < a1) → (K (1 : Int32) F))))
set_option maxRecDepth 100000 in
set_option maxHeartbeats 4000000 in
theorem c_X3_isFigure {l : Launch} {D : va_G} {dA : Nat → ClassId} {ad : Nat → Nat} {R : List Nat} {F : HF} {a1 : Int32} {K : Int32 → HF → Prop} (h : wp_X3_isFigure K F a1) : MI l yX3_isFigure cX3_isFigure 1 .boolean rm_X3_isFigure D dA ad R F [.int a1] K := by
  refine MI.of (own := RX3) (by decide) rfl (Nat.le_of_ble_eq_true rfl) ?_
  intro p e s m args below meth c A hA X hr
  unfold wp_X3_isFigure at h
  show J p l e rm_X3_isFigure s m args below meth c 1 D dA ad R A (QI D dA ad R A below args s K) F 0 [(0, .int a1)] []
  refine r_iload_n (pc := 0) X 0 dX3_isFigure_0 rfl rfl ?_
  refine r_bipush (pc := 1) (v := (48 : Int32)) X dX3_isFigure_1 (by decide) ?_
  refine r_icmp_lt (pc := 3) (tgt := 16) X dX3_isFigure_3 (by decide) (fun hc => ?_) (fun hc => ?_)
  · replace h := h.1 hc
    refine r_iconst (pc := 16) (v := (0 : Int32)) X dX3_isFigure_16 (by decide) ?_
    exact r_zret (pc := 17) X hr dX3_isFigure_17 nb0 h
  · replace h := h.2 hc
    refine r_iload_n (pc := 6) X 0 dX3_isFigure_6 rfl rfl ?_
    refine r_bipush (pc := 7) (v := (57 : Int32)) X dX3_isFigure_7 (by decide) ?_
    refine r_icmp_gt (pc := 9) (tgt := 16) X dX3_isFigure_9 (by decide) (fun hc => ?_) (fun hc => ?_)
    · replace h := h.1 hc
      refine r_iconst (pc := 16) (v := (0 : Int32)) X dX3_isFigure_16 (by decide) ?_
      exact r_zret (pc := 17) X hr dX3_isFigure_17 nb0 h
    · replace h := h.2 hc
      refine r_iconst (pc := 12) (v := (1 : Int32)) X dX3_isFigure_12 (by decide) ?_
      refine r_goto (pc := 13) (tgt := 17) X dX3_isFigure_13 (by decide) ?_
      exact r_zret (pc := 17) X hr dX3_isFigure_17 nb1 h
theorem dX3_figuresFrom_0 : decode cX3_figuresFrom 0 = .ok (.aload_n 0, 1) := by decide +kernel
theorem dX3_figuresFrom_1 : decode cX3_figuresFrom 1 = .ok (.iload_n 1, 1) := by decide +kernel
theorem dX3_figuresFrom_2 : decode cX3_figuresFrom 2 = .ok (.invokevirtual 32, 3) := by decide +kernel
theorem dX3_figuresFrom_5 : decode cX3_figuresFrom 5 = .ok (.invokestatic 51, 3) := by decide +kernel
theorem dX3_figuresFrom_8 : decode cX3_figuresFrom 8 = .ok (.ifCond .ne 5, 3) := by decide +kernel
theorem dX3_figuresFrom_11 : decode cX3_figuresFrom 11 = .ok (.iconst 0, 1) := by decide +kernel
theorem dX3_figuresFrom_12 : decode cX3_figuresFrom 12 = .ok (.ireturn, 1) := by decide +kernel
theorem dX3_figuresFrom_13 : decode cX3_figuresFrom 13 = .ok (.aload_n 0, 1) := by decide +kernel
theorem dX3_figuresFrom_14 : decode cX3_figuresFrom 14 = .ok (.iload_n 1, 1) := by decide +kernel
theorem dX3_figuresFrom_15 : decode cX3_figuresFrom 15 = .ok (.iconst 1, 1) := by decide +kernel
theorem dX3_figuresFrom_16 : decode cX3_figuresFrom 16 = .ok (.iadd, 1) := by decide +kernel
theorem dX3_figuresFrom_17 : decode cX3_figuresFrom 17 = .ok (.invokevirtual 32, 3) := by decide +kernel
theorem dX3_figuresFrom_20 : decode cX3_figuresFrom 20 = .ok (.invokestatic 51, 3) := by decide +kernel
theorem dX3_figuresFrom_23 : decode cX3_figuresFrom 23 = .ok (.ifCond .eq 7, 3) := by decide +kernel
theorem dX3_figuresFrom_26 : decode cX3_figuresFrom 26 = .ok (.iconst 2, 1) := by decide +kernel
theorem dX3_figuresFrom_27 : decode cX3_figuresFrom 27 = .ok (.goto 4, 3) := by decide +kernel
theorem dX3_figuresFrom_30 : decode cX3_figuresFrom 30 = .ok (.iconst 1, 1) := by decide +kernel
theorem dX3_figuresFrom_31 : decode cX3_figuresFrom 31 = .ok (.ireturn, 1) := by decide +kernel
theorem hd_X3_figuresFrom : yX3_figuresFrom.cls = RX3 ∧ yX3_figuresFrom.cls ≠ "java/lang/invoke/MethodHandle" ∧ yX3_figuresFrom.cls ≠ "java/lang/invoke/VarHandle" ∧ (parseMethodDescriptor yX3_figuresFrom.desc).map (fun d => d.parameters.length) = some 1 := by decide +kernel
abbrev rm_X3_figuresFrom : Room := { frames := 1, cells := 0, slots := 0, locals := 21 }
def wp_X3_figuresFrom (K : Int32 → HF → Prop) (F : HF) (a1 : Int32) : Prop := wp_X3_letterAt (fun x1 F1 => wp_X3_isFigure (fun x2 F2 => ((¬ x2 = 0) → (wp_X3_letterAt (fun x3 F3 => wp_X3_isFigure (fun x4 F4 => ((x4 = 0) → (K (1 : Int32) F4)) ∧ ((¬ x4 = 0) → (K (2 : Int32) F4))) F3 x3) F2 (a1 + (1 : Int32)))) ∧ ((x2 = 0) → (K (0 : Int32) F2))) F1 x1) F a1
set_option maxRecDepth 100000 in
set_option maxHeartbeats 4000000 in
theorem c_X3_figuresFrom {l : Launch} {D : va_G} {dA : Nat → ClassId} {ad : Nat → Nat} {R : List Nat} {F : HF} {a1 : Int32} {K : Int32 → HF → Prop} (hT : Sc R) (h : wp_X3_figuresFrom K F a1) : MI l yX3_figuresFrom cX3_figuresFrom 2 .int rm_X3_figuresFrom D dA ad R F [.ref (ad 1), .int a1] K := by
  refine MI.of (own := RX3) (by decide) rfl (Nat.le_of_ble_eq_true rfl) ?_
  intro p e s m args below meth c A hA X hr
  unfold wp_X3_figuresFrom at h
  show J p l e rm_X3_figuresFrom s m args below meth c 2 D dA ad R A (QI D dA ad R A below args s K) F 0 [(0, .ref (ad 1)), (1, .int a1)] []
  refine r_aload_n (pc := 0) X 0 dX3_figuresFrom_0 rfl rfl ?_
  refine r_iload_n (pc := 1) X 1 dX3_figuresFrom_1 rfl rfl ?_
  refine r_callIV (pc := 2) (As := [.int a1]) (st := []) X hA (c_X3_letterAt hT h) g_X3_32 cl_X3 hT.1 hd_X3_letterAt rfl rfl rfl ⟨Nat.le_of_ble_eq_true rfl, Nat.le_of_ble_eq_true rfl⟩ rfl (Nat.le_of_ble_eq_true rfl) dX3_figuresFrom_2 (fun x1 F1 h => ?_)
  refine r_callIS (pc := 5) (As := [.int x1]) (st := []) X hA (c_X3_isFigure  h) g_X3_51 hd_X3_isFigure rfl rfl rfl ⟨Nat.le_of_ble_eq_true rfl, Nat.le_of_ble_eq_true rfl⟩ rfl (Nat.le_of_ble_eq_true rfl) dX3_figuresFrom_5 (fun x2 F2 h => ?_)
  refine r_if_ne (pc := 8) (tgt := 13) X dX3_figuresFrom_8 (by decide) (fun hc => ?_) (fun hc => ?_)
  · replace h := h.1 hc
    refine r_aload_n (pc := 13) X 0 dX3_figuresFrom_13 rfl rfl ?_
    refine r_iload_n (pc := 14) X 1 dX3_figuresFrom_14 rfl rfl ?_
    refine r_iconst (pc := 15) (v := (1 : Int32)) X dX3_figuresFrom_15 (by decide) ?_
    refine r_iadd (pc := 16) X dX3_figuresFrom_16 ?_
    refine r_callIV (pc := 17) (As := [.int (a1 + (1 : Int32))]) (st := []) X hA (c_X3_letterAt hT h) g_X3_32 cl_X3 hT.1 hd_X3_letterAt rfl rfl rfl ⟨Nat.le_of_ble_eq_true rfl, Nat.le_of_ble_eq_true rfl⟩ rfl (Nat.le_of_ble_eq_true rfl) dX3_figuresFrom_17 (fun x3 F3 h => ?_)
    refine r_callIS (pc := 20) (As := [.int x3]) (st := []) X hA (c_X3_isFigure  h) g_X3_51 hd_X3_isFigure rfl rfl rfl ⟨Nat.le_of_ble_eq_true rfl, Nat.le_of_ble_eq_true rfl⟩ rfl (Nat.le_of_ble_eq_true rfl) dX3_figuresFrom_20 (fun x4 F4 h => ?_)
    refine r_if_eq (pc := 23) (tgt := 30) X dX3_figuresFrom_23 (by decide) (fun hc => ?_) (fun hc => ?_)
    · replace h := h.1 hc
      refine r_iconst (pc := 30) (v := (1 : Int32)) X dX3_figuresFrom_30 (by decide) ?_
      exact r_iret (pc := 31) X hr dX3_figuresFrom_31 h
    · replace h := h.2 hc
      refine r_iconst (pc := 26) (v := (2 : Int32)) X dX3_figuresFrom_26 (by decide) ?_
      refine r_goto (pc := 27) (tgt := 31) X dX3_figuresFrom_27 (by decide) ?_
      exact r_iret (pc := 31) X hr dX3_figuresFrom_31 h
  · replace h := h.2 hc
    refine r_iconst (pc := 11) (v := (0 : Int32)) X dX3_figuresFrom_11 (by decide) ?_
    exact r_iret (pc := 12) X hr dX3_figuresFrom_12 h
theorem dX3_numberAt_0 : decode cX3_numberAt 0 = .ok (.iconst 0, 1) := by decide +kernel
theorem dX3_numberAt_1 : decode cX3_numberAt 1 = .ok (.istore_n 3, 1) := by decide +kernel
theorem dX3_numberAt_2 : decode cX3_numberAt 2 = .ok (.iconst 0, 1) := by decide +kernel
theorem dX3_numberAt_3 : decode cX3_numberAt 3 = .ok (.istore 4, 2) := by decide +kernel
theorem dX3_numberAt_5 : decode cX3_numberAt 5 = .ok (.iload 4, 2) := by decide +kernel
theorem dX3_numberAt_7 : decode cX3_numberAt 7 = .ok (.iload_n 2, 1) := by decide +kernel
theorem dX3_numberAt_8 : decode cX3_numberAt 8 = .ok (.if_icmp .ge 26, 3) := by decide +kernel
theorem dX3_numberAt_11 : decode cX3_numberAt 11 = .ok (.iload_n 3, 1) := by decide +kernel
theorem dX3_numberAt_12 : decode cX3_numberAt 12 = .ok (.bipush 10, 2) := by decide +kernel
theorem dX3_numberAt_14 : decode cX3_numberAt 14 = .ok (.imul, 1) := by decide +kernel
theorem dX3_numberAt_15 : decode cX3_numberAt 15 = .ok (.aload_n 0, 1) := by decide +kernel
theorem dX3_numberAt_16 : decode cX3_numberAt 16 = .ok (.iload_n 1, 1) := by decide +kernel
theorem dX3_numberAt_17 : decode cX3_numberAt 17 = .ok (.iload 4, 2) := by decide +kernel
theorem dX3_numberAt_19 : decode cX3_numberAt 19 = .ok (.iadd, 1) := by decide +kernel
theorem dX3_numberAt_20 : decode cX3_numberAt 20 = .ok (.invokevirtual 32, 3) := by decide +kernel
theorem dX3_numberAt_23 : decode cX3_numberAt 23 = .ok (.bipush 48, 2) := by decide +kernel
theorem dX3_numberAt_25 : decode cX3_numberAt 25 = .ok (.isub, 1) := by decide +kernel
theorem dX3_numberAt_26 : decode cX3_numberAt 26 = .ok (.iadd, 1) := by decide +kernel
theorem dX3_numberAt_27 : decode cX3_numberAt 27 = .ok (.istore_n 3, 1) := by decide +kernel
theorem dX3_numberAt_28 : decode cX3_numberAt 28 = .ok (.iinc 4 1, 3) := by decide +kernel
theorem dX3_numberAt_31 : decode cX3_numberAt 31 = .ok (.goto (-26), 3) := by decide +kernel
theorem dX3_numberAt_34 : decode cX3_numberAt 34 = .ok (.iload_n 3, 1) := by decide +kernel
theorem dX3_numberAt_35 : decode cX3_numberAt 35 = .ok (.ireturn, 1) := by decide +kernel
theorem hd_X3_numberAt : yX3_numberAt.cls = RX3 ∧ yX3_numberAt.cls ≠ "java/lang/invoke/MethodHandle" ∧ yX3_numberAt.cls ≠ "java/lang/invoke/VarHandle" ∧ (parseMethodDescriptor yX3_numberAt.desc).map (fun d => d.parameters.length) = some 2 := by decide +kernel
abbrev rm_X3_numberAt : Room := { frames := 1, cells := 0, slots := 0, locals := 21 }
def wp_X3_numberAt_5 (K : Int32 → HF → Prop) : Nat → HF → Int32 → Int32 → Int32 → Int32 → Prop
  | 0 => fun _ _ _ _ _ => False
  | n_ + 1 => fun F v1 v2 v3 v4 => ((v2 ≤ v4) → (K v3 F)) ∧ ((¬ v2 ≤ v4) → (wp_X3_letterAt (fun x1 F101 => wp_X3_numberAt_5 K  n_ F101 v1 v2 ((v3 * (10 : Int32)) + (x1 - (48 : Int32))) (v4 + (1))) F (v1 + v4)))
set_option maxRecDepth 100000 in
set_option maxHeartbeats 4000000 in
theorem k_X3_numberAt_5 {p : Program} {l : Launch} {e : Env} {s : State} {m : MethodId} {args : Array Value} {below : List Frame} {meth : Method} {c : Code} {D : va_G} {dA : Nat → ClassId} {ad : Nat → Nat} {R : List Nat} {A : Nat → Prop} {K : Int32 → HF → Prop} (X : Cx p s m args meth c cX3_numberAt 5 RX3 D dA) (hA : ∀ q, s.heap.size ≤ q → A q) (hr : meth.sig.returnType = some .int) (hT : Sc R) : ∀ (n_ : Nat) (F : HF) (v1 : Int32) (v2 : Int32) (v3 : Int32) (v4 : Int32), wp_X3_numberAt_5 K  n_ F v1 v2 v3 v4 → J p l e rm_X3_numberAt s m args below meth c 5 D dA ad R A (QI D dA ad R A below args s K) F 5 [(0, .ref (ad 1)), (1, .int v1), (2, .int v2), (3, .int v3), (4, .int v4)] [] := by
  intro n_
  induction n_ with
  | zero => intro F v1 v2 v3 v4 h; exact h.elim
  | succ n_ ih =>
    intro F v1 v2 v3 v4 h
    unfold wp_X3_numberAt_5 at h
    refine r_iload (pc := 5) X 4 dX3_numberAt_5 rfl ?_
    refine r_iload_n (pc := 7) X 2 dX3_numberAt_7 rfl rfl ?_
    refine r_icmp_ge (pc := 8) (tgt := 34) X dX3_numberAt_8 (by decide) (fun hc => ?_) (fun hc => ?_)
    · replace h := h.1 hc
      refine r_iload_n (pc := 34) X 3 dX3_numberAt_34 rfl rfl ?_
      exact r_iret (pc := 35) X hr dX3_numberAt_35 h
    · replace h := h.2 hc
      refine r_iload_n (pc := 11) X 3 dX3_numberAt_11 rfl rfl ?_
      refine r_bipush (pc := 12) (v := (10 : Int32)) X dX3_numberAt_12 (by decide) ?_
      refine r_imul (pc := 14) X dX3_numberAt_14 ?_
      refine r_aload_n (pc := 15) X 0 dX3_numberAt_15 rfl rfl ?_
      refine r_iload_n (pc := 16) X 1 dX3_numberAt_16 rfl rfl ?_
      refine r_iload (pc := 17) X 4 dX3_numberAt_17 rfl ?_
      refine r_iadd (pc := 19) X dX3_numberAt_19 ?_
      refine r_callIV (pc := 20) (As := [.int (v1 + v4)]) (st := [.int (v3 * (10 : Int32))]) X hA (c_X3_letterAt hT h) g_X3_32 cl_X3 hT.1 hd_X3_letterAt rfl rfl rfl ⟨Nat.le_of_ble_eq_true rfl, Nat.le_of_ble_eq_true rfl⟩ rfl (Nat.le_of_ble_eq_true rfl) dX3_numberAt_20 (fun x1 F101 h => ?_)
      refine r_bipush (pc := 23) (v := (48 : Int32)) X dX3_numberAt_23 (by decide) ?_
      refine r_isub (pc := 25) X dX3_numberAt_25 ?_
      refine r_iadd (pc := 26) X dX3_numberAt_26 ?_
      refine r_istore_n (pc := 27) X [(3, .int ((v3 * (10 : Int32)) + (x1 - (48 : Int32)))), (0, .ref (ad 1)), (1, .int v1), (2, .int v2), (4, .int v4)] dX3_numberAt_27 rfl (by decide) rfl ?_
      refine r_iinc (pc := 28) (v := (v4 + (1))) X 4 [(4, .int (v4 + (1))), (3, .int ((v3 * (10 : Int32)) + (x1 - (48 : Int32)))), (0, .ref (ad 1)), (1, .int v1), (2, .int v2)] dX3_numberAt_28 rfl rfl (by decide) rfl ?_
      refine r_goto (pc := 31) (tgt := 5) X dX3_numberAt_31 (by decide) ?_
      refine r_sub [2, 3, 4, 1, 0] rfl ?_
      exact ih _ _ _ _ _ h
def wp_X3_numberAt (K : Int32 → HF → Prop) (F : HF) (a1 : Int32) (a2 : Int32) : Prop := ∃ n_, wp_X3_numberAt_5 K  n_ F a1 a2 (0 : Int32) (0 : Int32)
set_option maxRecDepth 100000 in
set_option maxHeartbeats 4000000 in
theorem c_X3_numberAt {l : Launch} {D : va_G} {dA : Nat → ClassId} {ad : Nat → Nat} {R : List Nat} {F : HF} {a1 : Int32} {a2 : Int32} {K : Int32 → HF → Prop} (hT : Sc R) (h : wp_X3_numberAt K F a1 a2) : MI l yX3_numberAt cX3_numberAt 5 .int rm_X3_numberAt D dA ad R F [.ref (ad 1), .int a1, .int a2] K := by
  refine MI.of (own := RX3) (by decide) rfl (Nat.le_of_ble_eq_true rfl) ?_
  intro p e s m args below meth c A hA X hr
  unfold wp_X3_numberAt at h
  show J p l e rm_X3_numberAt s m args below meth c 5 D dA ad R A (QI D dA ad R A below args s K) F 0 [(0, .ref (ad 1)), (1, .int a1), (2, .int a2)] []
  refine r_iconst (pc := 0) (v := (0 : Int32)) X dX3_numberAt_0 (by decide) ?_
  refine r_istore_n (pc := 1) X [(3, .int (0 : Int32)), (0, .ref (ad 1)), (1, .int a1), (2, .int a2)] dX3_numberAt_1 rfl (by decide) rfl ?_
  refine r_iconst (pc := 2) (v := (0 : Int32)) X dX3_numberAt_2 (by decide) ?_
  refine r_istore (pc := 3) X [(4, .int (0 : Int32)), (3, .int (0 : Int32)), (0, .ref (ad 1)), (1, .int a1), (2, .int a2)] dX3_numberAt_3 (by decide) rfl ?_
  refine r_sub [2, 3, 4, 1, 0] rfl ?_
  obtain ⟨n1, h⟩ := h
  exact k_X3_numberAt_5 X hA hr hT  n1 _ _ _ _ _ h
theorem dX3_numbersBehind_0 : decode cX3_numbersBehind 0 = .ok (.iload_n 0, 1) := by decide +kernel
theorem dX3_numbersBehind_1 : decode cX3_numbersBehind 1 = .ok (.lookupswitch 51 #[(98, 43), (108, 45), (114, 47), (119, 49)], 43) := by decide +kernel
theorem dX3_numbersBehind_44 : decode cX3_numbersBehind 44 = .ok (.iconst 4, 1) := by decide +kernel
theorem dX3_numbersBehind_45 : decode cX3_numbersBehind 45 = .ok (.ireturn, 1) := by decide +kernel
theorem dX3_numbersBehind_46 : decode cX3_numbersBehind 46 = .ok (.iconst 2, 1) := by decide +kernel
theorem dX3_numbersBehind_47 : decode cX3_numbersBehind 47 = .ok (.ireturn, 1) := by decide +kernel
theorem dX3_numbersBehind_48 : decode cX3_numbersBehind 48 = .ok (.iconst 1, 1) := by decide +kernel
theorem dX3_numbersBehind_49 : decode cX3_numbersBehind 49 = .ok (.ireturn, 1) := by decide +kernel
theorem dX3_numbersBehind_50 : decode cX3_numbersBehind 50 = .ok (.iconst 1, 1) := by decide +kernel
theorem dX3_numbersBehind_51 : decode cX3_numbersBehind 51 = .ok (.ireturn, 1) := by decide +kernel
theorem dX3_numbersBehind_52 : decode cX3_numbersBehind 52 = .ok (.iconst 0, 1) := by decide +kernel
theorem dX3_numbersBehind_53 : decode cX3_numbersBehind 53 = .ok (.ireturn, 1) := by decide +kernel
theorem hd_X3_numbersBehind : yX3_numbersBehind.cls = RX3 ∧ yX3_numbersBehind.cls ≠ "java/lang/invoke/MethodHandle" ∧ yX3_numbersBehind.cls ≠ "java/lang/invoke/VarHandle" ∧ (parseMethodDescriptor yX3_numbersBehind.desc).map (fun d => d.parameters.length) = some 1 := by decide +kernel
abbrev rm_X3_numbersBehind : Room := { frames := 0, cells := 0, slots := 0, locals := 0 }
def wp_X3_numbersBehind (K : Int32 → HF → Prop) (F : HF) (a1 : Int32) : Prop := (((a1 = 98) → (K (4 : Int32) F))) ∧ (((a1 = 108) → (K (2 : Int32) F))) ∧ (((a1 = 114) → (K (1 : Int32) F))) ∧ (((a1 = 119) → (K (1 : Int32) F))) ∧ ((¬ a1 = 98) → (¬ a1 = 108) → (¬ a1 = 114) → (¬ a1 = 119) → (K (0 : Int32) F))
set_option maxRecDepth 100000 in
set_option maxHeartbeats 4000000 in
theorem c_X3_numbersBehind {l : Launch} {D : va_G} {dA : Nat → ClassId} {ad : Nat → Nat} {R : List Nat} {F : HF} {a1 : Int32} {K : Int32 → HF → Prop} (h : wp_X3_numbersBehind K F a1) : MI l yX3_numbersBehind cX3_numbersBehind 1 .int rm_X3_numbersBehind D dA ad R F [.int a1] K := by
  refine MI.of (own := RX3) (by decide) rfl (Nat.le_of_ble_eq_true rfl) ?_
  intro p e s m args below meth c A hA X hr
  unfold wp_X3_numbersBehind at h
  show J p l e rm_X3_numbersBehind s m args below meth c 1 D dA ad R A (QI D dA ad R A below args s K) F 0 [(0, .int a1)] []
  refine r_iload_n (pc := 0) X 0 dX3_numbersBehind_0 rfl rfl ?_
  by_cases hc98 : a1 = 98
  · replace h := h.1 hc98
    refine r_lookup (pc := 1) (off := 43) (tgt := 44) X dX3_numbersBehind_1 (by decide) (by rw [hc98]; decide) (by decide) ?_
    refine r_iconst (pc := 44) (v := (4 : Int32)) X dX3_numbersBehind_44 (by decide) ?_
    exact r_iret (pc := 45) X hr dX3_numbersBehind_45 h
  · replace h := h.2
    by_cases hc108 : a1 = 108
    · replace h := h.1 hc108
      refine r_lookup (pc := 1) (off := 45) (tgt := 46) X dX3_numbersBehind_1 (by decide) (by rw [hc108]; decide) (by decide) ?_
      refine r_iconst (pc := 46) (v := (2 : Int32)) X dX3_numbersBehind_46 (by decide) ?_
      exact r_iret (pc := 47) X hr dX3_numbersBehind_47 h
    · replace h := h.2
      by_cases hc114 : a1 = 114
      · replace h := h.1 hc114
        refine r_lookup (pc := 1) (off := 47) (tgt := 48) X dX3_numbersBehind_1 (by decide) (by rw [hc114]; decide) (by decide) ?_
        refine r_iconst (pc := 48) (v := (1 : Int32)) X dX3_numbersBehind_48 (by decide) ?_
        exact r_iret (pc := 49) X hr dX3_numbersBehind_49 h
      · replace h := h.2
        by_cases hc119 : a1 = 119
        · replace h := h.1 hc119
          refine r_lookup (pc := 1) (off := 49) (tgt := 50) X dX3_numbersBehind_1 (by decide) (by rw [hc119]; decide) (by decide) ?_
          refine r_iconst (pc := 50) (v := (1 : Int32)) X dX3_numbersBehind_50 (by decide) ?_
          exact r_iret (pc := 51) X hr dX3_numbersBehind_51 h
        · replace h := h.2
          replace h := h hc98 hc108 hc114 hc119
          refine r_lookup (pc := 1) (off := 51) (tgt := 52) X dX3_numbersBehind_1 (by decide) (by rw [lv_osw hc98 (by decide), lv_osw hc108 (by decide), lv_osw hc114 (by decide), lv_osw hc119 (by decide)]; rfl) (by decide) ?_
          refine r_iconst (pc := 52) (v := (0 : Int32)) X dX3_numbersBehind_52 (by decide) ?_
          exact r_iret (pc := 53) X hr dX3_numbersBehind_53 h
theorem dX3_readItem_0 : decode cX3_readItem 0 = .ok (.aload_n 0, 1) := by decide +kernel
theorem dX3_readItem_1 : decode cX3_readItem 1 = .ok (.iload_n 1, 1) := by decide +kernel
theorem dX3_readItem_2 : decode cX3_readItem 2 = .ok (.invokevirtual 32, 3) := by decide +kernel
theorem dX3_readItem_5 : decode cX3_readItem 5 = .ok (.invokestatic 40, 3) := by decide +kernel
theorem dX3_readItem_8 : decode cX3_readItem 8 = .ok (.istore_n 2, 1) := by decide +kernel
theorem dX3_readItem_9 : decode cX3_readItem 9 = .ok (.iload_n 1, 1) := by decide +kernel
theorem dX3_readItem_10 : decode cX3_readItem 10 = .ok (.iconst 1, 1) := by decide +kernel
theorem dX3_readItem_11 : decode cX3_readItem 11 = .ok (.iadd, 1) := by decide +kernel
theorem dX3_readItem_12 : decode cX3_readItem 12 = .ok (.istore_n 3, 1) := by decide +kernel
theorem dX3_readItem_13 : decode cX3_readItem 13 = .ok (.iconst 0, 1) := by decide +kernel
theorem dX3_readItem_14 : decode cX3_readItem 14 = .ok (.istore 4, 2) := by decide +kernel
theorem dX3_readItem_16 : decode cX3_readItem 16 = .ok (.iload 4, 2) := by decide +kernel
theorem dX3_readItem_18 : decode cX3_readItem 18 = .ok (.iload_n 2, 1) := by decide +kernel
theorem dX3_readItem_19 : decode cX3_readItem 19 = .ok (.if_icmp .ge 82, 3) := by decide +kernel
theorem dX3_readItem_22 : decode cX3_readItem 22 = .ok (.iload 4, 2) := by decide +kernel
theorem dX3_readItem_24 : decode cX3_readItem 24 = .ok (.aload_n 0, 1) := by decide +kernel
theorem dX3_readItem_25 : decode cX3_readItem 25 = .ok (.getfield 15, 3) := by decide +kernel
theorem dX3_readItem_28 : decode cX3_readItem 28 = .ok (.arraylength, 1) := by decide +kernel
theorem dX3_readItem_29 : decode cX3_readItem 29 = .ok (.if_icmp .ge 72, 3) := by decide +kernel
theorem dX3_readItem_32 : decode cX3_readItem 32 = .ok (.aload_n 0, 1) := by decide +kernel
theorem dX3_readItem_33 : decode cX3_readItem 33 = .ok (.iload_n 3, 1) := by decide +kernel
theorem dX3_readItem_34 : decode cX3_readItem 34 = .ok (.invokevirtual 44, 3) := by decide +kernel
theorem dX3_readItem_37 : decode cX3_readItem 37 = .ok (.istore 5, 2) := by decide +kernel
theorem dX3_readItem_39 : decode cX3_readItem 39 = .ok (.iload 5, 2) := by decide +kernel
theorem dX3_readItem_41 : decode cX3_readItem 41 = .ok (.ifCond .ne 6, 3) := by decide +kernel
theorem dX3_readItem_44 : decode cX3_readItem 44 = .ok (.bipush (-4), 2) := by decide +kernel
theorem dX3_readItem_46 : decode cX3_readItem 46 = .ok (.ireturn, 1) := by decide +kernel
theorem dX3_readItem_47 : decode cX3_readItem 47 = .ok (.aload_n 0, 1) := by decide +kernel
theorem dX3_readItem_48 : decode cX3_readItem 48 = .ok (.getfield 15, 3) := by decide +kernel
theorem dX3_readItem_51 : decode cX3_readItem 51 = .ok (.iload 4, 2) := by decide +kernel
theorem dX3_readItem_53 : decode cX3_readItem 53 = .ok (.aload_n 0, 1) := by decide +kernel
theorem dX3_readItem_54 : decode cX3_readItem 54 = .ok (.iload_n 3, 1) := by decide +kernel
theorem dX3_readItem_55 : decode cX3_readItem 55 = .ok (.iload 5, 2) := by decide +kernel
theorem dX3_readItem_57 : decode cX3_readItem 57 = .ok (.invokevirtual 47, 3) := by decide +kernel
theorem dX3_readItem_60 : decode cX3_readItem 60 = .ok (.iastore, 1) := by decide +kernel
theorem dX3_readItem_61 : decode cX3_readItem 61 = .ok (.iload_n 3, 1) := by decide +kernel
theorem dX3_readItem_62 : decode cX3_readItem 62 = .ok (.iload 5, 2) := by decide +kernel
theorem dX3_readItem_64 : decode cX3_readItem 64 = .ok (.iadd, 1) := by decide +kernel
theorem dX3_readItem_65 : decode cX3_readItem 65 = .ok (.istore_n 3, 1) := by decide +kernel
theorem dX3_readItem_66 : decode cX3_readItem 66 = .ok (.aload_n 0, 1) := by decide +kernel
theorem dX3_readItem_67 : decode cX3_readItem 67 = .ok (.iload_n 3, 1) := by decide +kernel
theorem dX3_readItem_68 : decode cX3_readItem 68 = .ok (.invokevirtual 32, 3) := by decide +kernel
theorem dX3_readItem_71 : decode cX3_readItem 71 = .ok (.iload 4, 2) := by decide +kernel
theorem dX3_readItem_73 : decode cX3_readItem 73 = .ok (.iload_n 2, 1) := by decide +kernel
theorem dX3_readItem_74 : decode cX3_readItem 74 = .ok (.iconst 1, 1) := by decide +kernel
theorem dX3_readItem_75 : decode cX3_readItem 75 = .ok (.isub, 1) := by decide +kernel
theorem dX3_readItem_76 : decode cX3_readItem 76 = .ok (.if_icmp .ne 8, 3) := by decide +kernel
theorem dX3_readItem_79 : decode cX3_readItem 79 = .ok (.bipush 59, 2) := by decide +kernel
theorem dX3_readItem_81 : decode cX3_readItem 81 = .ok (.goto 5, 3) := by decide +kernel
theorem dX3_readItem_84 : decode cX3_readItem 84 = .ok (.bipush 44, 2) := by decide +kernel
theorem dX3_readItem_86 : decode cX3_readItem 86 = .ok (.if_icmp .eq 6, 3) := by decide +kernel
theorem dX3_readItem_89 : decode cX3_readItem 89 = .ok (.bipush (-4), 2) := by decide +kernel
theorem dX3_readItem_91 : decode cX3_readItem 91 = .ok (.ireturn, 1) := by decide +kernel
theorem dX3_readItem_92 : decode cX3_readItem 92 = .ok (.iinc 3 1, 3) := by decide +kernel
theorem dX3_readItem_95 : decode cX3_readItem 95 = .ok (.iinc 4 1, 3) := by decide +kernel
theorem dX3_readItem_98 : decode cX3_readItem 98 = .ok (.goto (-82), 3) := by decide +kernel
theorem dX3_readItem_101 : decode cX3_readItem 101 = .ok (.iload_n 2, 1) := by decide +kernel
theorem dX3_readItem_102 : decode cX3_readItem 102 = .ok (.ifCond .ne 8, 3) := by decide +kernel
theorem dX3_readItem_105 : decode cX3_readItem 105 = .ok (.bipush (-4), 2) := by decide +kernel
theorem dX3_readItem_107 : decode cX3_readItem 107 = .ok (.goto 4, 3) := by decide +kernel
theorem dX3_readItem_110 : decode cX3_readItem 110 = .ok (.iload_n 3, 1) := by decide +kernel
theorem dX3_readItem_111 : decode cX3_readItem 111 = .ok (.ireturn, 1) := by decide +kernel
theorem hd_X3_readItem : yX3_readItem.cls = RX3 ∧ yX3_readItem.cls ≠ "java/lang/invoke/MethodHandle" ∧ yX3_readItem.cls ≠ "java/lang/invoke/VarHandle" ∧ (parseMethodDescriptor yX3_readItem.desc).map (fun d => d.parameters.length) = some 1 := by decide +kernel
abbrev rm_X3_readItem : Room := { frames := 2, cells := 0, slots := 0, locals := 45 }
def wp_X3_readItem_101 (K : Int32 → HF → Prop) (F : HF) (v2 : Int32) (v3 : Int32) : Prop := ((¬ v2 = 0) → (K v3 F)) ∧ ((v2 = 0) → (K (-4 : Int32) F))
set_option maxRecDepth 100000 in
set_option maxHeartbeats 4000000 in
theorem k_X3_readItem_101 {p : Program} {l : Launch} {e : Env} {s : State} {m : MethodId} {args : Array Value} {below : List Frame} {meth : Method} {c : Code} {D : va_G} {dA : Nat → ClassId} {ad : Nat → Nat} {R : List Nat} {A : Nat → Prop} {K : Int32 → HF → Prop} (X : Cx p s m args meth c cX3_readItem 6 RX3 D dA) (hA : ∀ q, s.heap.size ≤ q → A q) (hr : meth.sig.returnType = some .int) (hT : Sc R) : ∀ (F : HF) (v2 : Int32) (v3 : Int32), wp_X3_readItem_101 K  F v2 v3 → J p l e rm_X3_readItem s m args below meth c 6 D dA ad R A (QI D dA ad R A below args s K) F 101 [(2, .int v2), (3, .int v3)] [] := by
  intro F v2 v3 h
  unfold wp_X3_readItem_101 at h
  refine r_iload_n (pc := 101) X 0 dX3_readItem_101 rfl rfl ?_
  refine r_if_ne (pc := 102) (tgt := 110) X dX3_readItem_102 (by decide) (fun hc => ?_) (fun hc => ?_)
  · replace h := h.1 hc
    refine r_iload_n (pc := 110) X 1 dX3_readItem_110 rfl rfl ?_
    exact r_iret (pc := 111) X hr dX3_readItem_111 h
  · replace h := h.2 hc
    refine r_bipush (pc := 105) (v := (-4 : Int32)) X dX3_readItem_105 (by decide) ?_
    refine r_goto (pc := 107) (tgt := 111) X dX3_readItem_107 (by decide) ?_
    exact r_iret (pc := 111) X hr dX3_readItem_111 h
def wp_X3_readItem_86 (K : Int32 → HF → Prop) (L16 : HF → Int32 → Int32 → Int32 → Prop) (F : HF) (v2 : Int32) (v3 : Int32) (v4 : Int32) (s0 : Int32) (s1 : Int32) : Prop := ((s0 = s1) → (L16 F v2 (v3 + (1)) (v4 + (1)))) ∧ ((¬ s0 = s1) → (K (-4 : Int32) F))
set_option maxRecDepth 100000 in
set_option maxHeartbeats 4000000 in
theorem k_X3_readItem_86 {p : Program} {l : Launch} {e : Env} {s : State} {m : MethodId} {args : Array Value} {below : List Frame} {meth : Method} {c : Code} {D : va_G} {dA : Nat → ClassId} {ad : Nat → Nat} {R : List Nat} {A : Nat → Prop} {K : Int32 → HF → Prop} {L16 : HF → Int32 → Int32 → Int32 → Prop} (X : Cx p s m args meth c cX3_readItem 6 RX3 D dA) (hA : ∀ q, s.heap.size ≤ q → A q) (hr : meth.sig.returnType = some .int) (hT : Sc R) (hL16 : ∀ (F : HF) (v2 : Int32) (v3 : Int32) (v4 : Int32), L16 F v2 v3 v4 → J p l e rm_X3_readItem s m args below meth c 6 D dA ad R A (QI D dA ad R A below args s K) F 16 [(0, .ref (ad 1)), (2, .int v2), (3, .int v3), (4, .int v4)] []) : ∀ (F : HF) (v2 : Int32) (v3 : Int32) (v4 : Int32) (s0 : Int32) (s1 : Int32), wp_X3_readItem_86 K L16  F v2 v3 v4 s0 s1 → J p l e rm_X3_readItem s m args below meth c 6 D dA ad R A (QI D dA ad R A below args s K) F 86 [(0, .ref (ad 1)), (2, .int v2), (3, .int v3), (4, .int v4)] [.int s1, .int s0] := by
  intro F v2 v3 v4 s0 s1 h
  unfold wp_X3_readItem_86 at h
  refine r_icmp_eq (pc := 86) (tgt := 92) X dX3_readItem_86 (by decide) (fun hc => ?_) (fun hc => ?_)
  · replace h := h.1 hc
    refine r_iinc (pc := 92) (v := (v3 + (1))) X 2 [(3, .int (v3 + (1))), (0, .ref (ad 1)), (2, .int v2), (4, .int v4)] dX3_readItem_92 rfl rfl (by decide) rfl ?_
    refine r_iinc (pc := 95) (v := (v4 + (1))) X 3 [(4, .int (v4 + (1))), (3, .int (v3 + (1))), (0, .ref (ad 1)), (2, .int v2)] dX3_readItem_95 rfl rfl (by decide) rfl ?_
    refine r_goto (pc := 98) (tgt := 16) X dX3_readItem_98 (by decide) ?_
    refine r_sub [2, 3, 1, 0] rfl ?_
    exact hL16 _ _ _ _ h
  · replace h := h.2 hc
    refine r_bipush (pc := 89) (v := (-4 : Int32)) X dX3_readItem_89 (by decide) ?_
    exact r_iret (pc := 91) X hr dX3_readItem_91 h
def wp_X3_readItem_16 (K : Int32 → HF → Prop) : Nat → HF → Int32 → Int32 → Int32 → Prop
  | 0 => fun _ _ _ _ => False
  | n_ + 1 => fun F v2 v3 v4 => ((v2 ≤ v4) → (wp_X3_readItem_101 K  F v2 v3)) ∧ ((¬ v2 ≤ v4) → ((((4 : Int32) ≤ v4) → (wp_X3_readItem_101 K  F v2 v3)) ∧ ((¬ (4 : Int32) ≤ v4) → (wp_X3_figuresFrom (fun x3 F203 => ((¬ x3 = 0) → (wp_X3_numberAt (fun x4 F204 => (vp_in v4 4) ∧ (∀ F205 : HF, F205 = hup F204 3 v4.toNatClampNeg x4 → (wp_X3_letterAt (fun x5 F206 => ((¬ v4 = (v2 - (1 : Int32))) → (wp_X3_readItem_86 K (wp_X3_readItem_16 K n_)  F206 v2 (v3 + x3) v4 x5 (44 : Int32))) ∧ ((v4 = (v2 - (1 : Int32))) → (wp_X3_readItem_86 K (wp_X3_readItem_16 K n_)  F206 v2 (v3 + x3) v4 x5 (59 : Int32)))) F205 (v3 + x3)))) F203 v3 x3)) ∧ ((x3 = 0) → (K (-4 : Int32) F203))) F v3))))
set_option maxRecDepth 100000 in
set_option maxHeartbeats 4000000 in
theorem k_X3_readItem_16 {p : Program} {l : Launch} {e : Env} {s : State} {m : MethodId} {args : Array Value} {below : List Frame} {meth : Method} {c : Code} {D : va_G} {dA : Nat → ClassId} {ad : Nat → Nat} {R : List Nat} {A : Nat → Prop} {K : Int32 → HF → Prop} (X : Cx p s m args meth c cX3_readItem 6 RX3 D dA) (hA : ∀ q, s.heap.size ≤ q → A q) (hr : meth.sig.returnType = some .int) (hT : Sc R) : ∀ (n_ : Nat) (F : HF) (v2 : Int32) (v3 : Int32) (v4 : Int32), wp_X3_readItem_16 K  n_ F v2 v3 v4 → J p l e rm_X3_readItem s m args below meth c 6 D dA ad R A (QI D dA ad R A below args s K) F 16 [(0, .ref (ad 1)), (2, .int v2), (3, .int v3), (4, .int v4)] [] := by
  intro n_
  induction n_ with
  | zero => intro F v2 v3 v4 h; exact h.elim
  | succ n_ ih =>
    intro F v2 v3 v4 h
    unfold wp_X3_readItem_16 at h
    refine r_iload (pc := 16) X 3 dX3_readItem_16 rfl ?_
    refine r_iload_n (pc := 18) X 1 dX3_readItem_18 rfl rfl ?_
    refine r_icmp_ge (pc := 19) (tgt := 101) X dX3_readItem_19 (by decide) (fun hc => ?_) (fun hc => ?_)
    · replace h := h.1 hc
      refine r_sub [1, 2] rfl ?_
      exact k_X3_readItem_101 X hA hr hT  _ _ _ h
    · replace h := h.2 hc
      refine r_iload (pc := 22) X 3 dX3_readItem_22 rfl ?_
      refine r_aload_n (pc := 24) X 0 dX3_readItem_24 rfl rfl ?_
      refine fg_X3_15 (pc := 25) X hT.1 dX3_readItem_25 ?_
      refine r_alen (pc := 28) (v := (4 : Int32)) X (Or.inl hT.2.2) rfl dX3_readItem_28 ?_
      refine r_icmp_ge (pc := 29) (tgt := 101) X dX3_readItem_29 (by decide) (fun hc => ?_) (fun hc => ?_)
      · replace h := h.1 hc
        refine r_sub [1, 2] rfl ?_
        exact k_X3_readItem_101 X hA hr hT  _ _ _ h
      · replace h := h.2 hc
        refine r_aload_n (pc := 32) X 0 dX3_readItem_32 rfl rfl ?_
        refine r_iload_n (pc := 33) X 2 dX3_readItem_33 rfl rfl ?_
        refine r_callIV (pc := 34) (As := [.int v3]) (st := []) X hA (c_X3_figuresFrom hT h) g_X3_44 cl_X3 hT.1 hd_X3_figuresFrom rfl rfl rfl ⟨Nat.le_of_ble_eq_true rfl, Nat.le_of_ble_eq_true rfl⟩ rfl (Nat.le_of_ble_eq_true rfl) dX3_readItem_34 (fun x3 F203 h => ?_)
        refine r_istore (pc := 37) X [(5, .int x3), (0, .ref (ad 1)), (2, .int v2), (3, .int v3), (4, .int v4)] dX3_readItem_37 (by decide) rfl ?_
        refine r_iload (pc := 39) X 0 dX3_readItem_39 rfl ?_
        refine r_if_ne (pc := 41) (tgt := 47) X dX3_readItem_41 (by decide) (fun hc => ?_) (fun hc => ?_)
        · replace h := h.1 hc
          refine r_aload_n (pc := 47) X 1 dX3_readItem_47 rfl rfl ?_
          refine fg_X3_15 (pc := 48) X hT.1 dX3_readItem_48 ?_
          refine r_iload (pc := 51) X 4 dX3_readItem_51 rfl ?_
          refine r_aload_n (pc := 53) X 1 dX3_readItem_53 rfl rfl ?_
          refine r_iload_n (pc := 54) X 3 dX3_readItem_54 rfl rfl ?_
          refine r_iload (pc := 55) X 0 dX3_readItem_55 rfl ?_
          refine r_callIV (pc := 57) (As := [.int v3, .int x3]) (st := [.int v4, .ref (ad 3)]) X hA (c_X3_numberAt hT h) g_X3_47 cl_X3 hT.1 hd_X3_numberAt rfl rfl rfl ⟨Nat.le_of_ble_eq_true rfl, Nat.le_of_ble_eq_true rfl⟩ rfl (Nat.le_of_ble_eq_true rfl) dX3_readItem_57 (fun x4 F204 h => ?_)
          refine r_iast (pc := 60) X hT.2.2 h.1 dX3_readItem_60 (fun F205 e1 => ?_)
          replace h := h.2 F205 e1
          refine r_iload_n (pc := 61) X 3 dX3_readItem_61 rfl rfl ?_
          refine r_iload (pc := 62) X 0 dX3_readItem_62 rfl ?_
          refine r_iadd (pc := 64) X dX3_readItem_64 ?_
          refine r_istore_n (pc := 65) X [(3, .int (v3 + x3)), (5, .int x3), (0, .ref (ad 1)), (2, .int v2), (4, .int v4)] dX3_readItem_65 rfl (by decide) rfl ?_
          refine r_aload_n (pc := 66) X 2 dX3_readItem_66 rfl rfl ?_
          refine r_iload_n (pc := 67) X 0 dX3_readItem_67 rfl rfl ?_
          refine r_callIV (pc := 68) (As := [.int (v3 + x3)]) (st := []) X hA (c_X3_letterAt hT h) g_X3_32 cl_X3 hT.1 hd_X3_letterAt rfl rfl rfl ⟨Nat.le_of_ble_eq_true rfl, Nat.le_of_ble_eq_true rfl⟩ rfl (Nat.le_of_ble_eq_true rfl) dX3_readItem_68 (fun x5 F206 h => ?_)
          refine r_iload (pc := 71) X 4 dX3_readItem_71 rfl ?_
          refine r_iload_n (pc := 73) X 3 dX3_readItem_73 rfl rfl ?_
          refine r_iconst (pc := 74) (v := (1 : Int32)) X dX3_readItem_74 (by decide) ?_
          refine r_isub (pc := 75) X dX3_readItem_75 ?_
          refine r_icmp_ne (pc := 76) (tgt := 84) X dX3_readItem_76 (by decide) (fun hc => ?_) (fun hc => ?_)
          · replace h := h.1 hc
            refine r_bipush (pc := 84) (v := (44 : Int32)) X dX3_readItem_84 (by decide) ?_
            refine r_sub [2, 3, 0, 4] rfl ?_
            exact k_X3_readItem_86 X hA hr hT ih _ _ _ _ _ _ h
          · replace h := h.2 hc
            refine r_bipush (pc := 79) (v := (59 : Int32)) X dX3_readItem_79 (by decide) ?_
            refine r_goto (pc := 81) (tgt := 86) X dX3_readItem_81 (by decide) ?_
            refine r_sub [2, 3, 0, 4] rfl ?_
            exact k_X3_readItem_86 X hA hr hT ih _ _ _ _ _ _ h
        · replace h := h.2 hc
          refine r_bipush (pc := 44) (v := (-4 : Int32)) X dX3_readItem_44 (by decide) ?_
          exact r_iret (pc := 46) X hr dX3_readItem_46 h
def wp_X3_readItem (K : Int32 → HF → Prop) (F : HF) (a1 : Int32) : Prop := wp_X3_letterAt (fun x1 F1 => wp_X3_numbersBehind (fun x2 F2 => ∃ n_, wp_X3_readItem_16 K  n_ F2 x2 (a1 + (1 : Int32)) (0 : Int32)) F1 x1) F a1
set_option maxRecDepth 100000 in
set_option maxHeartbeats 4000000 in
theorem c_X3_readItem {l : Launch} {D : va_G} {dA : Nat → ClassId} {ad : Nat → Nat} {R : List Nat} {F : HF} {a1 : Int32} {K : Int32 → HF → Prop} (hT : Sc R) (h : wp_X3_readItem K F a1) : MI l yX3_readItem cX3_readItem 6 .int rm_X3_readItem D dA ad R F [.ref (ad 1), .int a1] K := by
  refine MI.of (own := RX3) (by decide) rfl (Nat.le_of_ble_eq_true rfl) ?_
  intro p e s m args below meth c A hA X hr
  unfold wp_X3_readItem at h
  show J p l e rm_X3_readItem s m args below meth c 6 D dA ad R A (QI D dA ad R A below args s K) F 0 [(0, .ref (ad 1)), (1, .int a1)] []
  refine r_aload_n (pc := 0) X 0 dX3_readItem_0 rfl rfl ?_
  refine r_iload_n (pc := 1) X 1 dX3_readItem_1 rfl rfl ?_
  refine r_callIV (pc := 2) (As := [.int a1]) (st := []) X hA (c_X3_letterAt hT h) g_X3_32 cl_X3 hT.1 hd_X3_letterAt rfl rfl rfl ⟨Nat.le_of_ble_eq_true rfl, Nat.le_of_ble_eq_true rfl⟩ rfl (Nat.le_of_ble_eq_true rfl) dX3_readItem_2 (fun x1 F1 h => ?_)
  refine r_callIS (pc := 5) (As := [.int x1]) (st := []) X hA (c_X3_numbersBehind  h) g_X3_40 hd_X3_numbersBehind rfl rfl rfl ⟨Nat.le_of_ble_eq_true rfl, Nat.le_of_ble_eq_true rfl⟩ rfl (Nat.le_of_ble_eq_true rfl) dX3_readItem_5 (fun x2 F2 h => ?_)
  refine r_istore_n (pc := 8) X [(2, .int x2), (0, .ref (ad 1)), (1, .int a1)] dX3_readItem_8 rfl (by decide) rfl ?_
  refine r_iload_n (pc := 9) X 2 dX3_readItem_9 rfl rfl ?_
  refine r_iconst (pc := 10) (v := (1 : Int32)) X dX3_readItem_10 (by decide) ?_
  refine r_iadd (pc := 11) X dX3_readItem_11 ?_
  refine r_istore_n (pc := 12) X [(3, .int (a1 + (1 : Int32))), (2, .int x2), (0, .ref (ad 1)), (1, .int a1)] dX3_readItem_12 rfl (by decide) rfl ?_
  refine r_iconst (pc := 13) (v := (0 : Int32)) X dX3_readItem_13 (by decide) ?_
  refine r_istore (pc := 14) X [(4, .int (0 : Int32)), (3, .int (a1 + (1 : Int32))), (2, .int x2), (0, .ref (ad 1)), (1, .int a1)] dX3_readItem_14 (by decide) rfl ?_
  refine r_sub [3, 2, 1, 0] rfl ?_
  obtain ⟨n1, h⟩ := h
  exact k_X3_readItem_16 X hA hr hT  n1 _ _ _ _ h
theorem dX3_readInto_0 : decode cX3_readInto 0 = .ok (.aload_n 1, 1) := by decide +kernel
theorem dX3_readInto_1 : decode cX3_readInto 1 = .ok (.invokevirtual 23, 3) := by decide +kernel
theorem dX3_readInto_4 : decode cX3_readInto 4 = .ok (.iconst 0, 1) := by decide +kernel
theorem dX3_readInto_5 : decode cX3_readInto 5 = .ok (.istore_n 2, 1) := by decide +kernel
theorem dX3_readInto_6 : decode cX3_readInto 6 = .ok (.iload_n 2, 1) := by decide +kernel
theorem dX3_readInto_7 : decode cX3_readInto 7 = .ok (.aload_n 0, 1) := by decide +kernel
theorem dX3_readInto_8 : decode cX3_readInto 8 = .ok (.getfield 19, 3) := by decide +kernel
theorem dX3_readInto_11 : decode cX3_readInto 11 = .ok (.if_icmp .ge 37, 3) := by decide +kernel
theorem dX3_readInto_14 : decode cX3_readInto 14 = .ok (.aload_n 0, 1) := by decide +kernel
theorem dX3_readInto_15 : decode cX3_readInto 15 = .ok (.iload_n 2, 1) := by decide +kernel
theorem dX3_readInto_16 : decode cX3_readInto 16 = .ok (.invokevirtual 28, 3) := by decide +kernel
theorem dX3_readInto_19 : decode cX3_readInto 19 = .ok (.istore_n 3, 1) := by decide +kernel
theorem dX3_readInto_20 : decode cX3_readInto 20 = .ok (.iload_n 3, 1) := by decide +kernel
theorem dX3_readInto_21 : decode cX3_readInto 21 = .ok (.iload_n 2, 1) := by decide +kernel
theorem dX3_readInto_22 : decode cX3_readInto 22 = .ok (.if_icmp .le 19, 3) := by decide +kernel
theorem dX3_readInto_25 : decode cX3_readInto 25 = .ok (.aload_n 1, 1) := by decide +kernel
theorem dX3_readInto_26 : decode cX3_readInto 26 = .ok (.aload_n 0, 1) := by decide +kernel
theorem dX3_readInto_27 : decode cX3_readInto 27 = .ok (.iload_n 2, 1) := by decide +kernel
theorem dX3_readInto_28 : decode cX3_readInto 28 = .ok (.invokevirtual 32, 3) := by decide +kernel
theorem dX3_readInto_31 : decode cX3_readInto 31 = .ok (.aload_n 0, 1) := by decide +kernel
theorem dX3_readInto_32 : decode cX3_readInto 32 = .ok (.getfield 15, 3) := by decide +kernel
theorem dX3_readInto_35 : decode cX3_readInto 35 = .ok (.invokevirtual 36, 3) := by decide +kernel
theorem dX3_readInto_38 : decode cX3_readInto 38 = .ok (.ifCond .ne 5, 3) := by decide +kernel
theorem dX3_readInto_41 : decode cX3_readInto 41 = .ok (.iload_n 2, 1) := by decide +kernel
theorem dX3_readInto_42 : decode cX3_readInto 42 = .ok (.ireturn, 1) := by decide +kernel
theorem dX3_readInto_43 : decode cX3_readInto 43 = .ok (.iload_n 3, 1) := by decide +kernel
theorem dX3_readInto_44 : decode cX3_readInto 44 = .ok (.istore_n 2, 1) := by decide +kernel
theorem dX3_readInto_45 : decode cX3_readInto 45 = .ok (.goto (-39), 3) := by decide +kernel
theorem dX3_readInto_48 : decode cX3_readInto 48 = .ok (.bipush (-4), 2) := by decide +kernel
theorem dX3_readInto_50 : decode cX3_readInto 50 = .ok (.ireturn, 1) := by decide +kernel
theorem hd_X3_readInto : yX3_readInto.cls = RX3 ∧ yX3_readInto.cls ≠ "java/lang/invoke/MethodHandle" ∧ yX3_readInto.cls ≠ "java/lang/invoke/VarHandle" ∧ (parseMethodDescriptor yX3_readInto.desc).map (fun d => d.parameters.length) = some 1 := by decide +kernel
abbrev rm_X3_readInto : Room := { frames := 3, cells := 0, slots := 0, locals := 70 }
def wp_X3_readInto_6 (K : Int32 → HF → Prop) (r1 : Nat) : Nat → HF → Int32 → Prop
  | 0 => fun _ _ => False
  | n_ + 1 => fun F v2 => (((F 1 2) ≤ v2) → (K (-4 : Int32) F)) ∧ ((¬ (F 1 2) ≤ v2) → (wp_X3_readItem (fun x1 F102 => ((x1 ≤ v2) → (K v2 F102)) ∧ ((¬ x1 ≤ v2) → (wp_X3_letterAt (fun x2 F103 => wp_X1_take (fun x3 F104 => ((¬ x3 = 0) → (wp_X3_readInto_6 K r1  n_ F104 x1)) ∧ ((x3 = 0) → (K v2 F104))) F103 r1 3 4 x2) F102 v2))) F v2))
set_option maxRecDepth 100000 in
set_option maxHeartbeats 4000000 in
theorem k_X3_readInto_6 {p : Program} {l : Launch} {e : Env} {s : State} {m : MethodId} {args : Array Value} {below : List Frame} {meth : Method} {c : Code} {D : va_G} {dA : Nat → ClassId} {ad : Nat → Nat} {R : List Nat} {A : Nat → Prop} {K : Int32 → HF → Prop} {r1 : Nat} (X : Cx p s m args meth c cX3_readInto 4 RX3 D dA) (hA : ∀ q, s.heap.size ≤ q → A q) (hr : meth.sig.returnType = some .int) (hT : Sc R) (hr1 : Fl R r1) : ∀ (n_ : Nat) (F : HF) (v2 : Int32), wp_X3_readInto_6 K r1 n_ F v2 → J p l e rm_X3_readInto s m args below meth c 4 D dA ad R A (QI D dA ad R A below args s K) F 6 [(0, .ref (ad 1)), (1, .ref (ad r1)), (2, .int v2)] [] := by
  intro n_
  induction n_ with
  | zero => intro F v2 h; exact h.elim
  | succ n_ ih =>
    intro F v2 h
    unfold wp_X3_readInto_6 at h
    refine r_iload_n (pc := 6) X 2 dX3_readInto_6 rfl rfl ?_
    refine r_aload_n (pc := 7) X 0 dX3_readInto_7 rfl rfl ?_
    refine fg_X3_19 (pc := 8) X hT.1 dX3_readInto_8 ?_
    refine r_icmp_ge (pc := 11) (tgt := 48) X dX3_readInto_11 (by decide) (fun hc => ?_) (fun hc => ?_)
    · replace h := h.1 hc
      refine r_bipush (pc := 48) (v := (-4 : Int32)) X dX3_readInto_48 (by decide) ?_
      exact r_iret (pc := 50) X hr dX3_readInto_50 h
    · replace h := h.2 hc
      refine r_aload_n (pc := 14) X 0 dX3_readInto_14 rfl rfl ?_
      refine r_iload_n (pc := 15) X 2 dX3_readInto_15 rfl rfl ?_
      refine r_callIV (pc := 16) (As := [.int v2]) (st := []) X hA (c_X3_readItem hT h) g_X3_28 cl_X3 hT.1 hd_X3_readItem rfl rfl rfl ⟨Nat.le_of_ble_eq_true rfl, Nat.le_of_ble_eq_true rfl⟩ rfl (Nat.le_of_ble_eq_true rfl) dX3_readInto_16 (fun x1 F102 h => ?_)
      refine r_istore_n (pc := 19) X [(3, .int x1), (0, .ref (ad 1)), (1, .ref (ad r1)), (2, .int v2)] dX3_readInto_19 rfl (by decide) rfl ?_
      refine r_iload_n (pc := 20) X 0 dX3_readInto_20 rfl rfl ?_
      refine r_iload_n (pc := 21) X 3 dX3_readInto_21 rfl rfl ?_
      refine r_icmp_le (pc := 22) (tgt := 41) X dX3_readInto_22 (by decide) (fun hc => ?_) (fun hc => ?_)
      · replace h := h.1 hc
        refine r_iload_n (pc := 41) X 3 dX3_readInto_41 rfl rfl ?_
        exact r_iret (pc := 42) X hr dX3_readInto_42 h
      · replace h := h.2 hc
        refine r_aload_n (pc := 25) X 2 dX3_readInto_25 rfl rfl ?_
        refine r_aload_n (pc := 26) X 1 dX3_readInto_26 rfl rfl ?_
        refine r_iload_n (pc := 27) X 3 dX3_readInto_27 rfl rfl ?_
        refine r_callIV (pc := 28) (As := [.int v2]) (st := [.ref (ad r1)]) X hA (c_X3_letterAt hT h) g_X3_32 cl_X3 hT.1 hd_X3_letterAt rfl rfl rfl ⟨Nat.le_of_ble_eq_true rfl, Nat.le_of_ble_eq_true rfl⟩ rfl (Nat.le_of_ble_eq_true rfl) dX3_readInto_28 (fun x2 F103 h => ?_)
        refine r_aload_n (pc := 31) X 1 dX3_readInto_31 rfl rfl ?_
        refine fg_X3_15 (pc := 32) X hT.1 dX3_readInto_32 ?_
        refine r_callIV (pc := 35) (As := [.int x2, .ref (ad 3)]) (st := []) X hA (c_X1_take hr1 hT.2.2 h) g_X3_36 cl_X1 hr1.1 hd_X1_take rfl rfl rfl ⟨Nat.le_of_ble_eq_true rfl, Nat.le_of_ble_eq_true rfl⟩ rfl (Nat.le_of_ble_eq_true rfl) dX3_readInto_35 (fun x3 F104 h => ?_)
        refine r_if_ne (pc := 38) (tgt := 43) X dX3_readInto_38 (by decide) (fun hc => ?_) (fun hc => ?_)
        · replace h := h.1 hc
          refine r_iload_n (pc := 43) X 0 dX3_readInto_43 rfl rfl ?_
          refine r_istore_n (pc := 44) X [(2, .int x1), (3, .int x1), (0, .ref (ad 1)), (1, .ref (ad r1))] dX3_readInto_44 rfl (by decide) rfl ?_
          refine r_goto (pc := 45) (tgt := 6) X dX3_readInto_45 (by decide) ?_
          refine r_sub [2, 3, 0] rfl ?_
          exact ih _ _ h
        · replace h := h.2 hc
          refine r_iload_n (pc := 41) X 3 dX3_readInto_41 rfl rfl ?_
          exact r_iret (pc := 42) X hr dX3_readInto_42 h
def wp_X3_readInto (K : Int32 → HF → Prop) (F : HF) (r1 : Nat) : Prop := wp_X1_clear (fun F1 => ∃ n_, wp_X3_readInto_6 K r1  n_ F1 (0 : Int32)) F r1
set_option maxRecDepth 100000 in
set_option maxHeartbeats 4000000 in
theorem c_X3_readInto {l : Launch} {D : va_G} {dA : Nat → ClassId} {ad : Nat → Nat} {R : List Nat} {F : HF} {r1 : Nat} {K : Int32 → HF → Prop} (hT : Sc R) (hr1 : Fl R r1) (h : wp_X3_readInto K F r1) : MI l yX3_readInto cX3_readInto 4 .int rm_X3_readInto D dA ad R F [.ref (ad 1), .ref (ad r1)] K := by
  refine MI.of (own := RX3) (by decide) rfl (Nat.le_of_ble_eq_true rfl) ?_
  intro p e s m args below meth c A hA X hr
  unfold wp_X3_readInto at h
  show J p l e rm_X3_readInto s m args below meth c 4 D dA ad R A (QI D dA ad R A below args s K) F 0 [(0, .ref (ad 1)), (1, .ref (ad r1))] []
  refine r_aload_n (pc := 0) X 1 dX3_readInto_0 rfl rfl ?_
  refine r_callVV (pc := 1) (As := []) (st := []) X hA (c_X1_clear hr1 h) g_X3_23 cl_X1 hr1.1 hd_X1_clear rfl rfl rfl ⟨Nat.le_of_ble_eq_true rfl, Nat.le_of_ble_eq_true rfl⟩ rfl (Nat.le_of_ble_eq_true rfl) dX3_readInto_1 (fun F1 h => ?_)
  refine r_iconst (pc := 4) (v := (0 : Int32)) X dX3_readInto_4 (by decide) ?_
  refine r_istore_n (pc := 5) X [(2, .int (0 : Int32)), (0, .ref (ad 1)), (1, .ref (ad r1))] dX3_readInto_5 rfl (by decide) rfl ?_
  refine r_sub [1, 2, 0] rfl ?_
  obtain ⟨n1, h⟩ := h
  exact k_X3_readInto_6 X hA hr hT hr1  n1 _ _ h
end
section
theorem dX2_bridge_0 : decode cX2_bridge 0 = .ok (.aload_n 0, 1) := by decide +kernel
theorem dX2_bridge_1 : decode cX2_bridge 1 = .ok (.getfield 34, 3) := by decide +kernel
theorem dX2_bridge_4 : decode cX2_bridge 4 = .ok (.areturn, 1) := by decide +kernel
theorem hd_X2_bridge : yX2_bridge.cls = RX2 ∧ yX2_bridge.cls ≠ "java/lang/invoke/MethodHandle" ∧ yX2_bridge.cls ≠ "java/lang/invoke/VarHandle" ∧ (parseMethodDescriptor yX2_bridge.desc).map (fun d => d.parameters.length) = some 0 := by decide +kernel
abbrev rm_X2_bridge : Room := { frames := 0, cells := 0, slots := 0, locals := 0 }
theorem c_X2_bridge {l : Launch} {D : va_G} {dA : Nat → ClassId} {ad : Nat → Nat} {R : List Nat} {F : HF} {n : Nat} (hT : Nt R n) : MR l yX2_bridge cX2_bridge 1 (.object "BirdBridge$Bridge") rm_X2_bridge D dA ad R F [.ref (ad n)] (fun r F1 => r = n + 1 ∧ F1 = F) := by
  refine MR.of (own := RX2) (by decide) rfl (Nat.le_of_ble_eq_true rfl) ?_
  intro p e s m args below meth c A hA X hr
  show J p l e rm_X2_bridge s m args below meth c 1 D dA ad R A _ F 0 [(0, .ref (ad n))] []
  refine r_aload_n (pc := 0) X 0 dX2_bridge_0 rfl rfl ?_
  refine fg_X2_34 (pc := 1) X hT.1 dX2_bridge_1 ?_
  exact r_aret (pc := 4) X hr dX2_bridge_4 ⟨rfl, rfl⟩
theorem r_bridge_X6 {p : Program} {l : Launch} {e : Env} {Rm : Room} {s : State} {m : MethodId} {args : Array Value} {below : List Frame} {meth : Method} {c : Code} {nL : Nat} {D : va_G} {dA : Nat → ClassId} {ad : Nat → Nat} {R : List Nat} {A : Nat → Prop} {Q : State → Prop} {F : HF} {pc : Nat} {lv : List (Nat × Value)} {st : List Value} {cc : ByteArray} {t t1 : Nat} (X : Cx p s m args meth c cc nL RX6 D dA) (hA : ∀ q, s.heap.size ≤ q → A q) (ht : t + 1 = t1) (hn : Nt R t) (hcat : (st.map fun v => v.category).sum ≤ 8) (hf : 1 ≤ Rm.frames) (hl : 20 ≤ Rm.locals) (hdg : decode cc pc = .ok (.invokevirtual 123, 3)) (kk : J p l e Rm s m args below meth c nL D dA ad R A Q F (pc + 3) lv (.ref (ad t1) :: st)) : J p l e Rm s m args below meth c nL D dA ad R A Q F pc lv (.ref (ad t) :: st) := by
  refine r_callRV (As := []) (st := st) X hA (c_X2_bridge hn) g_X6_123 cl_X2 hn.1 hd_X2_bridge rfl rfl rfl ⟨hf, hl⟩ rfl hcat hdg (fun r F1 h => ?_)
  rw [h.1, h.2, ht]
  exact kk
theorem dX2_begin_0 : decode cX2_begin 0 = .ok (.aload_n 0, 1) := by decide +kernel
theorem dX2_begin_1 : decode cX2_begin 1 = .ok (.getfield 34, 3) := by decide +kernel
theorem dX2_begin_4 : decode cX2_begin 4 = .ok (.invokevirtual 38, 3) := by decide +kernel
theorem dX2_begin_7 : decode cX2_begin 7 = .ok (.aload_n 0, 1) := by decide +kernel
theorem dX2_begin_8 : decode cX2_begin 8 = .ok (.iconst 0, 1) := by decide +kernel
theorem dX2_begin_9 : decode cX2_begin 9 = .ok (.putfield 9, 3) := by decide +kernel
theorem dX2_begin_12 : decode cX2_begin 12 = .ok (.aload_n 0, 1) := by decide +kernel
theorem dX2_begin_13 : decode cX2_begin 13 = .ok (.iconst 0, 1) := by decide +kernel
theorem dX2_begin_14 : decode cX2_begin 14 = .ok (.putfield 15, 3) := by decide +kernel
theorem dX2_begin_17 : decode cX2_begin 17 = .ok (.aload_n 0, 1) := by decide +kernel
theorem dX2_begin_18 : decode cX2_begin 18 = .ok (.iconst (-1), 1) := by decide +kernel
theorem dX2_begin_19 : decode cX2_begin 19 = .ok (.putfield 18, 3) := by decide +kernel
theorem dX2_begin_22 : decode cX2_begin 22 = .ok (.aload_n 0, 1) := by decide +kernel
theorem dX2_begin_23 : decode cX2_begin 23 = .ok (.iconst 0, 1) := by decide +kernel
theorem dX2_begin_24 : decode cX2_begin 24 = .ok (.putfield 21, 3) := by decide +kernel
theorem dX2_begin_27 : decode cX2_begin 27 = .ok (.return_, 1) := by decide +kernel
theorem hd_X2_begin : yX2_begin.cls = RX2 ∧ yX2_begin.cls ≠ "java/lang/invoke/MethodHandle" ∧ yX2_begin.cls ≠ "java/lang/invoke/VarHandle" ∧ (parseMethodDescriptor yX2_begin.desc).map (fun d => d.parameters.length) = some 0 := by decide +kernel
abbrev rm_X2_begin : Room := { frames := 2, cells := 0, slots := 0, locals := 41 }
def wp_X2_begin (K : HF → Prop) (F : HF) (n : Nat) : Prop := wp_X0_clear (fun F1 => ∀ F2 : HF, F2 = hup F1 n 2 (0 : Int32) → (∀ F3 : HF, F3 = hup F2 n 3 (0 : Int32) → (∀ F4 : HF, F4 = hup F3 n 4 (-1 : Int32) → (∀ F5 : HF, F5 = hup F4 n 5 (0 : Int32) → (K F5))))) F (n + 1)
set_option maxRecDepth 100000 in
set_option maxHeartbeats 4000000 in
theorem c_X2_begin {l : Launch} {D : va_G} {dA : Nat → ClassId} {ad : Nat → Nat} {R : List Nat} {F : HF} {n : Nat} {K : HF → Prop} (hT : Nt R n) (h : wp_X2_begin K F n) : MV l yX2_begin cX2_begin 1 rm_X2_begin D dA ad R F [.ref (ad n)] K := by
  refine MV.of (own := RX2) (by decide) rfl (Nat.le_of_ble_eq_true rfl) ?_
  intro p e s m args below meth c A hA X hr
  unfold wp_X2_begin at h
  show J p l e rm_X2_begin s m args below meth c 1 D dA ad R A (QV D dA ad R A below args s K) F 0 [(0, .ref (ad n))] []
  refine r_aload_n (pc := 0) X 0 dX2_begin_0 rfl rfl ?_
  refine fg_X2_34 (pc := 1) X hT.1 dX2_begin_1 ?_
  refine r_callVV (pc := 4) (As := []) (st := []) X hA (c_X0_clear hT.2 h) g_X2_38 cl_X0 hT.2.1 hd_X0_clear rfl rfl rfl ⟨Nat.le_of_ble_eq_true rfl, Nat.le_of_ble_eq_true rfl⟩ rfl (Nat.le_of_ble_eq_true rfl) dX2_begin_4 (fun F1 h => ?_)
  refine r_aload_n (pc := 7) X 0 dX2_begin_7 rfl rfl ?_
  refine r_iconst (pc := 8) (v := (0 : Int32)) X dX2_begin_8 (by decide) ?_
  refine fp_X2_9 (pc := 9) X hT.1 dX2_begin_9 (fun F2 e1 => ?_)
  replace h := h F2 e1
  refine r_aload_n (pc := 12) X 0 dX2_begin_12 rfl rfl ?_
  refine r_iconst (pc := 13) (v := (0 : Int32)) X dX2_begin_13 (by decide) ?_
  refine fp_X2_15 (pc := 14) X hT.1 dX2_begin_14 (fun F3 e1 => ?_)
  replace h := h F3 e1
  refine r_aload_n (pc := 17) X 0 dX2_begin_17 rfl rfl ?_
  refine r_iconst (pc := 18) (v := (-1 : Int32)) X dX2_begin_18 (by decide) ?_
  refine fp_X2_18 (pc := 19) X hT.1 dX2_begin_19 (fun F4 e1 => ?_)
  replace h := h F4 e1
  refine r_aload_n (pc := 22) X 0 dX2_begin_22 rfl rfl ?_
  refine r_iconst (pc := 23) (v := (0 : Int32)) X dX2_begin_23 (by decide) ?_
  refine fp_X2_21 (pc := 24) X (Or.inl rfl) hT.1 dX2_begin_24 (fun F5 e1 => ?_)
  replace h := h F5 e1
  exact r_vret (pc := 27) X hr dX2_begin_27 h
theorem dX2_copyFrom_0 : decode cX2_copyFrom 0 = .ok (.aload_n 0, 1) := by decide +kernel
theorem dX2_copyFrom_1 : decode cX2_copyFrom 1 = .ok (.getfield 34, 3) := by decide +kernel
theorem dX2_copyFrom_4 : decode cX2_copyFrom 4 = .ok (.aload_n 1, 1) := by decide +kernel
theorem dX2_copyFrom_5 : decode cX2_copyFrom 5 = .ok (.getfield 34, 3) := by decide +kernel
theorem dX2_copyFrom_8 : decode cX2_copyFrom 8 = .ok (.invokevirtual 41, 3) := by decide +kernel
theorem dX2_copyFrom_11 : decode cX2_copyFrom 11 = .ok (.aload_n 0, 1) := by decide +kernel
theorem dX2_copyFrom_12 : decode cX2_copyFrom 12 = .ok (.aload_n 1, 1) := by decide +kernel
theorem dX2_copyFrom_13 : decode cX2_copyFrom 13 = .ok (.getfield 9, 3) := by decide +kernel
theorem dX2_copyFrom_16 : decode cX2_copyFrom 16 = .ok (.putfield 9, 3) := by decide +kernel
theorem dX2_copyFrom_19 : decode cX2_copyFrom 19 = .ok (.aload_n 0, 1) := by decide +kernel
theorem dX2_copyFrom_20 : decode cX2_copyFrom 20 = .ok (.aload_n 1, 1) := by decide +kernel
theorem dX2_copyFrom_21 : decode cX2_copyFrom 21 = .ok (.getfield 15, 3) := by decide +kernel
theorem dX2_copyFrom_24 : decode cX2_copyFrom 24 = .ok (.putfield 15, 3) := by decide +kernel
theorem dX2_copyFrom_27 : decode cX2_copyFrom 27 = .ok (.aload_n 0, 1) := by decide +kernel
theorem dX2_copyFrom_28 : decode cX2_copyFrom 28 = .ok (.aload_n 1, 1) := by decide +kernel
theorem dX2_copyFrom_29 : decode cX2_copyFrom 29 = .ok (.getfield 18, 3) := by decide +kernel
theorem dX2_copyFrom_32 : decode cX2_copyFrom 32 = .ok (.putfield 18, 3) := by decide +kernel
theorem dX2_copyFrom_35 : decode cX2_copyFrom 35 = .ok (.aload_n 0, 1) := by decide +kernel
theorem dX2_copyFrom_36 : decode cX2_copyFrom 36 = .ok (.aload_n 1, 1) := by decide +kernel
theorem dX2_copyFrom_37 : decode cX2_copyFrom 37 = .ok (.getfield 21, 3) := by decide +kernel
theorem dX2_copyFrom_40 : decode cX2_copyFrom 40 = .ok (.putfield 21, 3) := by decide +kernel
theorem dX2_copyFrom_43 : decode cX2_copyFrom 43 = .ok (.return_, 1) := by decide +kernel
theorem hd_X2_copyFrom : yX2_copyFrom.cls = RX2 ∧ yX2_copyFrom.cls ≠ "java/lang/invoke/MethodHandle" ∧ yX2_copyFrom.cls ≠ "java/lang/invoke/VarHandle" ∧ (parseMethodDescriptor yX2_copyFrom.desc).map (fun d => d.parameters.length) = some 1 := by decide +kernel
abbrev rm_X2_copyFrom : Room := { frames := 2, cells := 0, slots := 0, locals := 69 }
def wp_X2_copyFrom (K : HF → Prop) (F : HF) (n : Nat) (r1 : Nat) : Prop := wp_X0_copyFrom (fun F1 => ∀ F2 : HF, F2 = hup F1 n 2 (F1 r1 2) → (∀ F3 : HF, F3 = hup F2 n 3 (F2 r1 3) → (∀ F4 : HF, F4 = hup F3 n 4 (F3 r1 4) → (((F4 r1 5) = 0 ∨ (F4 r1 5) = 1) ∧ (∀ F5 : HF, F5 = hup F4 n 5 (F4 r1 5) → (K F5)))))) F (n + 1) (r1 + 1)
set_option maxRecDepth 100000 in
set_option maxHeartbeats 4000000 in
theorem c_X2_copyFrom {l : Launch} {D : va_G} {dA : Nat → ClassId} {ad : Nat → Nat} {R : List Nat} {F : HF} {n : Nat} {r1 : Nat} {K : HF → Prop} (hT : Nt R n) (hr1 : Nt R r1) (h : wp_X2_copyFrom K F n r1) : MV l yX2_copyFrom cX2_copyFrom 2 rm_X2_copyFrom D dA ad R F [.ref (ad n), .ref (ad r1)] K := by
  refine MV.of (own := RX2) (by decide) rfl (Nat.le_of_ble_eq_true rfl) ?_
  intro p e s m args below meth c A hA X hr
  unfold wp_X2_copyFrom at h
  show J p l e rm_X2_copyFrom s m args below meth c 2 D dA ad R A (QV D dA ad R A below args s K) F 0 [(0, .ref (ad n)), (1, .ref (ad r1))] []
  refine r_aload_n (pc := 0) X 0 dX2_copyFrom_0 rfl rfl ?_
  refine fg_X2_34 (pc := 1) X hT.1 dX2_copyFrom_1 ?_
  refine r_aload_n (pc := 4) X 1 dX2_copyFrom_4 rfl rfl ?_
  refine fg_X2_34 (pc := 5) X hr1.1 dX2_copyFrom_5 ?_
  refine r_callVV (pc := 8) (As := [.ref (ad (r1 + 1))]) (st := []) X hA (c_X0_copyFrom hT.2 hr1.2 h) g_X2_41 cl_X0 hT.2.1 hd_X0_copyFrom rfl rfl rfl ⟨Nat.le_of_ble_eq_true rfl, Nat.le_of_ble_eq_true rfl⟩ rfl (Nat.le_of_ble_eq_true rfl) dX2_copyFrom_8 (fun F1 h => ?_)
  refine r_aload_n (pc := 11) X 0 dX2_copyFrom_11 rfl rfl ?_
  refine r_aload_n (pc := 12) X 1 dX2_copyFrom_12 rfl rfl ?_
  refine fg_X2_9 (pc := 13) X hr1.1 dX2_copyFrom_13 ?_
  refine fp_X2_9 (pc := 16) X hT.1 dX2_copyFrom_16 (fun F2 e1 => ?_)
  replace h := h F2 e1
  refine r_aload_n (pc := 19) X 0 dX2_copyFrom_19 rfl rfl ?_
  refine r_aload_n (pc := 20) X 1 dX2_copyFrom_20 rfl rfl ?_
  refine fg_X2_15 (pc := 21) X hr1.1 dX2_copyFrom_21 ?_
  refine fp_X2_15 (pc := 24) X hT.1 dX2_copyFrom_24 (fun F3 e1 => ?_)
  replace h := h F3 e1
  refine r_aload_n (pc := 27) X 0 dX2_copyFrom_27 rfl rfl ?_
  refine r_aload_n (pc := 28) X 1 dX2_copyFrom_28 rfl rfl ?_
  refine fg_X2_18 (pc := 29) X hr1.1 dX2_copyFrom_29 ?_
  refine fp_X2_18 (pc := 32) X hT.1 dX2_copyFrom_32 (fun F4 e1 => ?_)
  replace h := h F4 e1
  refine r_aload_n (pc := 35) X 0 dX2_copyFrom_35 rfl rfl ?_
  refine r_aload_n (pc := 36) X 1 dX2_copyFrom_36 rfl rfl ?_
  refine fg_X2_21 (pc := 37) X hr1.1 dX2_copyFrom_37 ?_
  refine fp_X2_21 (pc := 40) X h.1 hT.1 dX2_copyFrom_40 (fun F5 e1 => ?_)
  replace h := h.2 F5 e1
  exact r_vret (pc := 43) X hr dX2_copyFrom_43 h
theorem dX2_minute_0 : decode cX2_minute 0 = .ok (.aload_n 0, 1) := by decide +kernel
theorem dX2_minute_1 : decode cX2_minute 1 = .ok (.getfield 9, 3) := by decide +kernel
theorem dX2_minute_4 : decode cX2_minute 4 = .ok (.ireturn, 1) := by decide +kernel
theorem hd_X2_minute : yX2_minute.cls = RX2 ∧ yX2_minute.cls ≠ "java/lang/invoke/MethodHandle" ∧ yX2_minute.cls ≠ "java/lang/invoke/VarHandle" ∧ (parseMethodDescriptor yX2_minute.desc).map (fun d => d.parameters.length) = some 0 := by decide +kernel
abbrev rm_X2_minute : Room := { frames := 0, cells := 0, slots := 0, locals := 0 }
def wp_X2_minute (K : Int32 → HF → Prop) (F : HF) (n : Nat) : Prop := K (F n 2) F
set_option maxRecDepth 100000 in
set_option maxHeartbeats 4000000 in
theorem c_X2_minute {l : Launch} {D : va_G} {dA : Nat → ClassId} {ad : Nat → Nat} {R : List Nat} {F : HF} {n : Nat} {K : Int32 → HF → Prop} (hT : Nt R n) (h : wp_X2_minute K F n) : MI l yX2_minute cX2_minute 1 .int rm_X2_minute D dA ad R F [.ref (ad n)] K := by
  refine MI.of (own := RX2) (by decide) rfl (Nat.le_of_ble_eq_true rfl) ?_
  intro p e s m args below meth c A hA X hr
  unfold wp_X2_minute at h
  show J p l e rm_X2_minute s m args below meth c 1 D dA ad R A (QI D dA ad R A below args s K) F 0 [(0, .ref (ad n))] []
  refine r_aload_n (pc := 0) X 0 dX2_minute_0 rfl rfl ?_
  refine fg_X2_9 (pc := 1) X hT.1 dX2_minute_1 ?_
  exact r_iret (pc := 4) X hr dX2_minute_4 h
theorem dX2_yearNow_0 : decode cX2_yearNow 0 = .ok (.aload_n 0, 1) := by decide +kernel
theorem dX2_yearNow_1 : decode cX2_yearNow 1 = .ok (.getfield 15, 3) := by decide +kernel
theorem dX2_yearNow_4 : decode cX2_yearNow 4 = .ok (.ireturn, 1) := by decide +kernel
theorem hd_X2_yearNow : yX2_yearNow.cls = RX2 ∧ yX2_yearNow.cls ≠ "java/lang/invoke/MethodHandle" ∧ yX2_yearNow.cls ≠ "java/lang/invoke/VarHandle" ∧ (parseMethodDescriptor yX2_yearNow.desc).map (fun d => d.parameters.length) = some 0 := by decide +kernel
abbrev rm_X2_yearNow : Room := { frames := 0, cells := 0, slots := 0, locals := 0 }
def wp_X2_yearNow (K : Int32 → HF → Prop) (F : HF) (n : Nat) : Prop := K (F n 3) F
set_option maxRecDepth 100000 in
set_option maxHeartbeats 4000000 in
theorem c_X2_yearNow {l : Launch} {D : va_G} {dA : Nat → ClassId} {ad : Nat → Nat} {R : List Nat} {F : HF} {n : Nat} {K : Int32 → HF → Prop} (hT : Nt R n) (h : wp_X2_yearNow K F n) : MI l yX2_yearNow cX2_yearNow 1 .int rm_X2_yearNow D dA ad R F [.ref (ad n)] K := by
  refine MI.of (own := RX2) (by decide) rfl (Nat.le_of_ble_eq_true rfl) ?_
  intro p e s m args below meth c A hA X hr
  unfold wp_X2_yearNow at h
  show J p l e rm_X2_yearNow s m args below meth c 1 D dA ad R A (QI D dA ad R A below args s K) F 0 [(0, .ref (ad n))] []
  refine r_aload_n (pc := 0) X 0 dX2_yearNow_0 rfl rfl ?_
  refine fg_X2_15 (pc := 1) X hT.1 dX2_yearNow_1 ?_
  exact r_iret (pc := 4) X hr dX2_yearNow_4 h
theorem dX2_setYear_0 : decode cX2_setYear 0 = .ok (.aload_n 0, 1) := by decide +kernel
theorem dX2_setYear_1 : decode cX2_setYear 1 = .ok (.iload_n 1, 1) := by decide +kernel
theorem dX2_setYear_2 : decode cX2_setYear 2 = .ok (.putfield 15, 3) := by decide +kernel
theorem dX2_setYear_5 : decode cX2_setYear 5 = .ok (.return_, 1) := by decide +kernel
theorem hd_X2_setYear : yX2_setYear.cls = RX2 ∧ yX2_setYear.cls ≠ "java/lang/invoke/MethodHandle" ∧ yX2_setYear.cls ≠ "java/lang/invoke/VarHandle" ∧ (parseMethodDescriptor yX2_setYear.desc).map (fun d => d.parameters.length) = some 1 := by decide +kernel
abbrev rm_X2_setYear : Room := { frames := 0, cells := 0, slots := 0, locals := 0 }
def wp_X2_setYear (K : HF → Prop) (F : HF) (n : Nat) (a1 : Int32) : Prop := ∀ F1 : HF, F1 = hup F n 3 a1 → (K F1)
set_option maxRecDepth 100000 in
set_option maxHeartbeats 4000000 in
theorem c_X2_setYear {l : Launch} {D : va_G} {dA : Nat → ClassId} {ad : Nat → Nat} {R : List Nat} {F : HF} {n : Nat} {a1 : Int32} {K : HF → Prop} (hT : Nt R n) (h : wp_X2_setYear K F n a1) : MV l yX2_setYear cX2_setYear 2 rm_X2_setYear D dA ad R F [.ref (ad n), .int a1] K := by
  refine MV.of (own := RX2) (by decide) rfl (Nat.le_of_ble_eq_true rfl) ?_
  intro p e s m args below meth c A hA X hr
  unfold wp_X2_setYear at h
  show J p l e rm_X2_setYear s m args below meth c 2 D dA ad R A (QV D dA ad R A below args s K) F 0 [(0, .ref (ad n)), (1, .int a1)] []
  refine r_aload_n (pc := 0) X 0 dX2_setYear_0 rfl rfl ?_
  refine r_iload_n (pc := 1) X 1 dX2_setYear_1 rfl rfl ?_
  refine fp_X2_15 (pc := 2) X hT.1 dX2_setYear_2 (fun F1 e1 => ?_)
  replace h := h F1 e1
  exact r_vret (pc := 5) X hr dX2_setYear_5 h
theorem dX2_place_0 : decode cX2_place 0 = .ok (.aload_n 0, 1) := by decide +kernel
theorem dX2_place_1 : decode cX2_place 1 = .ok (.getfield 18, 3) := by decide +kernel
theorem dX2_place_4 : decode cX2_place 4 = .ok (.ireturn, 1) := by decide +kernel
theorem hd_X2_place : yX2_place.cls = RX2 ∧ yX2_place.cls ≠ "java/lang/invoke/MethodHandle" ∧ yX2_place.cls ≠ "java/lang/invoke/VarHandle" ∧ (parseMethodDescriptor yX2_place.desc).map (fun d => d.parameters.length) = some 0 := by decide +kernel
abbrev rm_X2_place : Room := { frames := 0, cells := 0, slots := 0, locals := 0 }
def wp_X2_place (K : Int32 → HF → Prop) (F : HF) (n : Nat) : Prop := K (F n 4) F
set_option maxRecDepth 100000 in
set_option maxHeartbeats 4000000 in
theorem c_X2_place {l : Launch} {D : va_G} {dA : Nat → ClassId} {ad : Nat → Nat} {R : List Nat} {F : HF} {n : Nat} {K : Int32 → HF → Prop} (hT : Nt R n) (h : wp_X2_place K F n) : MI l yX2_place cX2_place 1 .int rm_X2_place D dA ad R F [.ref (ad n)] K := by
  refine MI.of (own := RX2) (by decide) rfl (Nat.le_of_ble_eq_true rfl) ?_
  intro p e s m args below meth c A hA X hr
  unfold wp_X2_place at h
  show J p l e rm_X2_place s m args below meth c 1 D dA ad R A (QI D dA ad R A below args s K) F 0 [(0, .ref (ad n))] []
  refine r_aload_n (pc := 0) X 0 dX2_place_0 rfl rfl ?_
  refine fg_X2_18 (pc := 1) X hT.1 dX2_place_1 ?_
  exact r_iret (pc := 4) X hr dX2_place_4 h
theorem dX2_isBroken_0 : decode cX2_isBroken 0 = .ok (.aload_n 0, 1) := by decide +kernel
theorem dX2_isBroken_1 : decode cX2_isBroken 1 = .ok (.getfield 21, 3) := by decide +kernel
theorem dX2_isBroken_4 : decode cX2_isBroken 4 = .ok (.ireturn, 1) := by decide +kernel
theorem hd_X2_isBroken : yX2_isBroken.cls = RX2 ∧ yX2_isBroken.cls ≠ "java/lang/invoke/MethodHandle" ∧ yX2_isBroken.cls ≠ "java/lang/invoke/VarHandle" ∧ (parseMethodDescriptor yX2_isBroken.desc).map (fun d => d.parameters.length) = some 0 := by decide +kernel
abbrev rm_X2_isBroken : Room := { frames := 0, cells := 0, slots := 0, locals := 0 }
def wp_X2_isBroken (K : Int32 → HF → Prop) (F : HF) (n : Nat) : Prop := ((F n 5) = 0 ∨ (F n 5) = 1) ∧ K (F n 5) F
set_option maxRecDepth 100000 in
set_option maxHeartbeats 4000000 in
theorem c_X2_isBroken {l : Launch} {D : va_G} {dA : Nat → ClassId} {ad : Nat → Nat} {R : List Nat} {F : HF} {n : Nat} {K : Int32 → HF → Prop} (hT : Nt R n) (h : wp_X2_isBroken K F n) : MI l yX2_isBroken cX2_isBroken 1 .boolean rm_X2_isBroken D dA ad R F [.ref (ad n)] K := by
  refine MI.of (own := RX2) (by decide) rfl (Nat.le_of_ble_eq_true rfl) ?_
  intro p e s m args below meth c A hA X hr
  unfold wp_X2_isBroken at h
  show J p l e rm_X2_isBroken s m args below meth c 1 D dA ad R A (QI D dA ad R A below args s K) F 0 [(0, .ref (ad n))] []
  refine r_aload_n (pc := 0) X 0 dX2_isBroken_0 rfl rfl ?_
  refine fg_X2_21 (pc := 1) X hT.1 dX2_isBroken_1 ?_
  exact r_zret (pc := 4) X hr dX2_isBroken_4 (nbz h.1) h.2
theorem dX2_weight_0 : decode cX2_weight 0 = .ok (.aload_n 0, 1) := by decide +kernel
theorem dX2_weight_1 : decode cX2_weight 1 = .ok (.getfield 25, 3) := by decide +kernel
theorem dX2_weight_4 : decode cX2_weight 4 = .ok (.aload_n 0, 1) := by decide +kernel
theorem dX2_weight_5 : decode cX2_weight 5 = .ok (.getfield 15, 3) := by decide +kernel
theorem dX2_weight_8 : decode cX2_weight 8 = .ok (.invokevirtual 45, 3) := by decide +kernel
theorem dX2_weight_11 : decode cX2_weight 11 = .ok (.ireturn, 1) := by decide +kernel
theorem hd_X2_weight : yX2_weight.cls = RX2 ∧ yX2_weight.cls ≠ "java/lang/invoke/MethodHandle" ∧ yX2_weight.cls ≠ "java/lang/invoke/VarHandle" ∧ (parseMethodDescriptor yX2_weight.desc).map (fun d => d.parameters.length) = some 0 := by decide +kernel
abbrev rm_X2_weight : Room := { frames := 1, cells := 0, slots := 0, locals := 21 }
def wp_X2_weight (K : Int32 → HF → Prop) (F : HF) (n : Nat) : Prop := wp_X1_weightIn (fun x1 F1 => K x1 F1) F 4 (F n 3)
set_option maxRecDepth 100000 in
set_option maxHeartbeats 4000000 in
theorem c_X2_weight {l : Launch} {D : va_G} {dA : Nat → ClassId} {ad : Nat → Nat} {R : List Nat} {F : HF} {n : Nat} {K : Int32 → HF → Prop} (hT : Nt R n) (h : wp_X2_weight K F n) : MI l yX2_weight cX2_weight 1 .int rm_X2_weight D dA ad R F [.ref (ad n)] K := by
  refine MI.of (own := RX2) (by decide) rfl (Nat.le_of_ble_eq_true rfl) ?_
  intro p e s m args below meth c A hA X hr
  unfold wp_X2_weight at h
  show J p l e rm_X2_weight s m args below meth c 1 D dA ad R A (QI D dA ad R A below args s K) F 0 [(0, .ref (ad n))] []
  refine r_aload_n (pc := 0) X 0 dX2_weight_0 rfl rfl ?_
  refine fg_X2_25 (pc := 1) X hT.1 dX2_weight_1 ?_
  refine r_aload_n (pc := 4) X 0 dX2_weight_4 rfl rfl ?_
  refine fg_X2_15 (pc := 5) X hT.1 dX2_weight_5 ?_
  refine r_callIV (pc := 8) (As := [.int (F n 3)]) (st := []) X hA (c_X1_weightIn hT.2.2.2.2.2 h) g_X2_45 cl_X1 hT.2.2.2.2.2.1 hd_X1_weightIn rfl rfl rfl ⟨Nat.le_of_ble_eq_true rfl, Nat.le_of_ble_eq_true rfl⟩ rfl (Nat.le_of_ble_eq_true rfl) dX2_weight_8 (fun x1 F1 h => ?_)
  exact r_iret (pc := 11) X hr dX2_weight_11 h
theorem dX2_isOnBridge_0 : decode cX2_isOnBridge 0 = .ok (.aload_n 0, 1) := by decide +kernel
theorem dX2_isOnBridge_1 : decode cX2_isOnBridge 1 = .ok (.getfield 18, 3) := by decide +kernel
theorem dX2_isOnBridge_4 : decode cX2_isOnBridge 4 = .ok (.ifCond .lt 21, 3) := by decide +kernel
theorem dX2_isOnBridge_7 : decode cX2_isOnBridge 7 = .ok (.aload_n 0, 1) := by decide +kernel
theorem dX2_isOnBridge_8 : decode cX2_isOnBridge 8 = .ok (.getfield 18, 3) := by decide +kernel
theorem dX2_isOnBridge_11 : decode cX2_isOnBridge 11 = .ok (.aload_n 0, 1) := by decide +kernel
theorem dX2_isOnBridge_12 : decode cX2_isOnBridge 12 = .ok (.getfield 25, 3) := by decide +kernel
theorem dX2_isOnBridge_15 : decode cX2_isOnBridge 15 = .ok (.invokevirtual 51, 3) := by decide +kernel
theorem dX2_isOnBridge_18 : decode cX2_isOnBridge 18 = .ok (.if_icmp .ge 7, 3) := by decide +kernel
theorem dX2_isOnBridge_21 : decode cX2_isOnBridge 21 = .ok (.iconst 1, 1) := by decide +kernel
theorem dX2_isOnBridge_22 : decode cX2_isOnBridge 22 = .ok (.goto 4, 3) := by decide +kernel
theorem dX2_isOnBridge_25 : decode cX2_isOnBridge 25 = .ok (.iconst 0, 1) := by decide +kernel
theorem dX2_isOnBridge_26 : decode cX2_isOnBridge 26 = .ok (.ireturn, 1) := by decide +kernel
theorem hd_X2_isOnBridge : yX2_isOnBridge.cls = RX2 ∧ yX2_isOnBridge.cls ≠ "java/lang/invoke/MethodHandle" ∧ yX2_isOnBridge.cls ≠ "java/lang/invoke/VarHandle" ∧ (parseMethodDescriptor yX2_isOnBridge.desc).map (fun d => d.parameters.length) = some 0 := by decide +kernel
abbrev rm_X2_isOnBridge : Room := { frames := 1, cells := 0, slots := 0, locals := 20 }
def wp_X2_isOnBridge (K : Int32 → HF → Prop) (F : HF) (n : Nat) : Prop := (((F n 4) < 0) → (K (0 : Int32) F)) ∧ ((¬ (F n 4) < 0) → (wp_X1_width (fun x1 F1 => ((x1 ≤ (F n 4)) → (K (0 : Int32) F1)) ∧ ((¬ x1 ≤ (F n 4)) → (K (1 : Int32) F1))) F 4))
set_option maxRecDepth 100000 in
set_option maxHeartbeats 4000000 in
theorem c_X2_isOnBridge {l : Launch} {D : va_G} {dA : Nat → ClassId} {ad : Nat → Nat} {R : List Nat} {F : HF} {n : Nat} {K : Int32 → HF → Prop} (hT : Nt R n) (h : wp_X2_isOnBridge K F n) : MI l yX2_isOnBridge cX2_isOnBridge 1 .boolean rm_X2_isOnBridge D dA ad R F [.ref (ad n)] K := by
  refine MI.of (own := RX2) (by decide) rfl (Nat.le_of_ble_eq_true rfl) ?_
  intro p e s m args below meth c A hA X hr
  unfold wp_X2_isOnBridge at h
  show J p l e rm_X2_isOnBridge s m args below meth c 1 D dA ad R A (QI D dA ad R A below args s K) F 0 [(0, .ref (ad n))] []
  refine r_aload_n (pc := 0) X 0 dX2_isOnBridge_0 rfl rfl ?_
  refine fg_X2_18 (pc := 1) X hT.1 dX2_isOnBridge_1 ?_
  refine r_if_lt (pc := 4) (tgt := 25) X dX2_isOnBridge_4 (by decide) (fun hc => ?_) (fun hc => ?_)
  · replace h := h.1 hc
    refine r_iconst (pc := 25) (v := (0 : Int32)) X dX2_isOnBridge_25 (by decide) ?_
    exact r_zret (pc := 26) X hr dX2_isOnBridge_26 nb0 h
  · replace h := h.2 hc
    refine r_aload_n (pc := 7) X 0 dX2_isOnBridge_7 rfl rfl ?_
    refine fg_X2_18 (pc := 8) X hT.1 dX2_isOnBridge_8 ?_
    refine r_aload_n (pc := 11) X 0 dX2_isOnBridge_11 rfl rfl ?_
    refine fg_X2_25 (pc := 12) X hT.1 dX2_isOnBridge_12 ?_
    refine r_callIV (pc := 15) (As := []) (st := [.int (F n 4)]) X hA (c_X1_width hT.2.2.2.2.2 h) g_X2_51 cl_X1 hT.2.2.2.2.2.1 hd_X1_width rfl rfl rfl ⟨Nat.le_of_ble_eq_true rfl, Nat.le_of_ble_eq_true rfl⟩ rfl (Nat.le_of_ble_eq_true rfl) dX2_isOnBridge_15 (fun x1 F1 h => ?_)
    refine r_icmp_ge (pc := 18) (tgt := 25) X dX2_isOnBridge_18 (by decide) (fun hc => ?_) (fun hc => ?_)
    · replace h := h.1 hc
      refine r_iconst (pc := 25) (v := (0 : Int32)) X dX2_isOnBridge_25 (by decide) ?_
      exact r_zret (pc := 26) X hr dX2_isOnBridge_26 nb0 h
    · replace h := h.2 hc
      refine r_iconst (pc := 21) (v := (1 : Int32)) X dX2_isOnBridge_21 (by decide) ?_
      refine r_goto (pc := 22) (tgt := 26) X dX2_isOnBridge_22 (by decide) ?_
      exact r_zret (pc := 26) X hr dX2_isOnBridge_26 nb1 h
theorem dX2_isFixed_0 : decode cX2_isFixed 0 = .ok (.aload_n 0, 1) := by decide +kernel
theorem dX2_isFixed_1 : decode cX2_isFixed 1 = .ok (.getfield 21, 3) := by decide +kernel
theorem dX2_isFixed_4 : decode cX2_isFixed 4 = .ok (.ifCond .ne 10, 3) := by decide +kernel
theorem dX2_isFixed_7 : decode cX2_isFixed 7 = .ok (.aload_n 0, 1) := by decide +kernel
theorem dX2_isFixed_8 : decode cX2_isFixed 8 = .ok (.invokevirtual 55, 3) := by decide +kernel
theorem dX2_isFixed_11 : decode cX2_isFixed 11 = .ok (.ifCond .eq 7, 3) := by decide +kernel
theorem dX2_isFixed_14 : decode cX2_isFixed 14 = .ok (.iconst 1, 1) := by decide +kernel
theorem dX2_isFixed_15 : decode cX2_isFixed 15 = .ok (.goto 4, 3) := by decide +kernel
theorem dX2_isFixed_18 : decode cX2_isFixed 18 = .ok (.iconst 0, 1) := by decide +kernel
theorem dX2_isFixed_19 : decode cX2_isFixed 19 = .ok (.ireturn, 1) := by decide +kernel
theorem hd_X2_isFixed : yX2_isFixed.cls = RX2 ∧ yX2_isFixed.cls ≠ "java/lang/invoke/MethodHandle" ∧ yX2_isFixed.cls ≠ "java/lang/invoke/VarHandle" ∧ (parseMethodDescriptor yX2_isFixed.desc).map (fun d => d.parameters.length) = some 0 := by decide +kernel
abbrev rm_X2_isFixed : Room := { frames := 2, cells := 0, slots := 0, locals := 40 }
def wp_X2_isFixed (K : Int32 → HF → Prop) (F : HF) (n : Nat) : Prop := ((¬ (F n 5) = 0) → (K (1 : Int32) F)) ∧ (((F n 5) = 0) → (wp_X2_isOnBridge (fun x1 F1 => ((x1 = 0) → (K (0 : Int32) F1)) ∧ ((¬ x1 = 0) → (K (1 : Int32) F1))) F n))
set_option maxRecDepth 100000 in
set_option maxHeartbeats 4000000 in
theorem c_X2_isFixed {l : Launch} {D : va_G} {dA : Nat → ClassId} {ad : Nat → Nat} {R : List Nat} {F : HF} {n : Nat} {K : Int32 → HF → Prop} (hT : Nt R n) (h : wp_X2_isFixed K F n) : MI l yX2_isFixed cX2_isFixed 1 .boolean rm_X2_isFixed D dA ad R F [.ref (ad n)] K := by
  refine MI.of (own := RX2) (by decide) rfl (Nat.le_of_ble_eq_true rfl) ?_
  intro p e s m args below meth c A hA X hr
  unfold wp_X2_isFixed at h
  show J p l e rm_X2_isFixed s m args below meth c 1 D dA ad R A (QI D dA ad R A below args s K) F 0 [(0, .ref (ad n))] []
  refine r_aload_n (pc := 0) X 0 dX2_isFixed_0 rfl rfl ?_
  refine fg_X2_21 (pc := 1) X hT.1 dX2_isFixed_1 ?_
  refine r_if_ne (pc := 4) (tgt := 14) X dX2_isFixed_4 (by decide) (fun hc => ?_) (fun hc => ?_)
  · replace h := h.1 hc
    refine r_iconst (pc := 14) (v := (1 : Int32)) X dX2_isFixed_14 (by decide) ?_
    refine r_goto (pc := 15) (tgt := 19) X dX2_isFixed_15 (by decide) ?_
    exact r_zret (pc := 19) X hr dX2_isFixed_19 nb1 h
  · replace h := h.2 hc
    refine r_aload_n (pc := 7) X 0 dX2_isFixed_7 rfl rfl ?_
    refine r_callIV (pc := 8) (As := []) (st := []) X hA (c_X2_isOnBridge hT h) g_X2_55 cl_X2 hT.1 hd_X2_isOnBridge rfl rfl rfl ⟨Nat.le_of_ble_eq_true rfl, Nat.le_of_ble_eq_true rfl⟩ rfl (Nat.le_of_ble_eq_true rfl) dX2_isFixed_8 (fun x1 F1 h => ?_)
    refine r_if_eq (pc := 11) (tgt := 18) X dX2_isFixed_11 (by decide) (fun hc => ?_) (fun hc => ?_)
    · replace h := h.1 hc
      refine r_iconst (pc := 18) (v := (0 : Int32)) X dX2_isFixed_18 (by decide) ?_
      exact r_zret (pc := 19) X hr dX2_isFixed_19 nb0 h
    · replace h := h.2 hc
      refine r_iconst (pc := 14) (v := (1 : Int32)) X dX2_isFixed_14 (by decide) ?_
      refine r_goto (pc := 15) (tgt := 19) X dX2_isFixed_15 (by decide) ?_
      exact r_zret (pc := 19) X hr dX2_isFixed_19 nb1 h
theorem dX2_passMinuteAt_0 : decode cX2_passMinuteAt 0 = .ok (.aload_n 0, 1) := by decide +kernel
theorem dX2_passMinuteAt_1 : decode cX2_passMinuteAt 1 = .ok (.iload_n 1, 1) := by decide +kernel
theorem dX2_passMinuteAt_2 : decode cX2_passMinuteAt 2 = .ok (.putfield 18, 3) := by decide +kernel
theorem dX2_passMinuteAt_5 : decode cX2_passMinuteAt 5 = .ok (.aload_n 0, 1) := by decide +kernel
theorem dX2_passMinuteAt_6 : decode cX2_passMinuteAt 6 = .ok (.invokevirtual 55, 3) := by decide +kernel
theorem dX2_passMinuteAt_9 : decode cX2_passMinuteAt 9 = .ok (.ifCond .eq 49, 3) := by decide +kernel
theorem dX2_passMinuteAt_12 : decode cX2_passMinuteAt 12 = .ok (.aload_n 0, 1) := by decide +kernel
theorem dX2_passMinuteAt_13 : decode cX2_passMinuteAt 13 = .ok (.getfield 34, 3) := by decide +kernel
theorem dX2_passMinuteAt_16 : decode cX2_passMinuteAt 16 = .ok (.aload_n 0, 1) := by decide +kernel
theorem dX2_passMinuteAt_17 : decode cX2_passMinuteAt 17 = .ok (.getfield 18, 3) := by decide +kernel
theorem dX2_passMinuteAt_20 : decode cX2_passMinuteAt 20 = .ok (.aload_n 0, 1) := by decide +kernel
theorem dX2_passMinuteAt_21 : decode cX2_passMinuteAt 21 = .ok (.invokevirtual 59, 3) := by decide +kernel
theorem dX2_passMinuteAt_24 : decode cX2_passMinuteAt 24 = .ok (.aload_n 0, 1) := by decide +kernel
theorem dX2_passMinuteAt_25 : decode cX2_passMinuteAt 25 = .ok (.getfield 25, 3) := by decide +kernel
theorem dX2_passMinuteAt_28 : decode cX2_passMinuteAt 28 = .ok (.aload_n 0, 1) := by decide +kernel
theorem dX2_passMinuteAt_29 : decode cX2_passMinuteAt 29 = .ok (.getfield 9, 3) := by decide +kernel
theorem dX2_passMinuteAt_32 : decode cX2_passMinuteAt 32 = .ok (.invokevirtual 62, 3) := by decide +kernel
theorem dX2_passMinuteAt_35 : decode cX2_passMinuteAt 35 = .ok (.iadd, 1) := by decide +kernel
theorem dX2_passMinuteAt_36 : decode cX2_passMinuteAt 36 = .ok (.invokevirtual 65, 3) := by decide +kernel
theorem dX2_passMinuteAt_39 : decode cX2_passMinuteAt 39 = .ok (.aload_n 0, 1) := by decide +kernel
theorem dX2_passMinuteAt_40 : decode cX2_passMinuteAt 40 = .ok (.aload_n 0, 1) := by decide +kernel
theorem dX2_passMinuteAt_41 : decode cX2_passMinuteAt 41 = .ok (.getfield 34, 3) := by decide +kernel
theorem dX2_passMinuteAt_44 : decode cX2_passMinuteAt 44 = .ok (.invokevirtual 69, 3) := by decide +kernel
theorem dX2_passMinuteAt_47 : decode cX2_passMinuteAt 47 = .ok (.ifCond .ne 7, 3) := by decide +kernel
theorem dX2_passMinuteAt_50 : decode cX2_passMinuteAt 50 = .ok (.iconst 1, 1) := by decide +kernel
theorem dX2_passMinuteAt_51 : decode cX2_passMinuteAt 51 = .ok (.goto 4, 3) := by decide +kernel
theorem dX2_passMinuteAt_54 : decode cX2_passMinuteAt 54 = .ok (.iconst 0, 1) := by decide +kernel
theorem dX2_passMinuteAt_55 : decode cX2_passMinuteAt 55 = .ok (.putfield 21, 3) := by decide +kernel
theorem dX2_passMinuteAt_58 : decode cX2_passMinuteAt 58 = .ok (.aload_n 0, 1) := by decide +kernel
theorem dX2_passMinuteAt_59 : decode cX2_passMinuteAt 59 = .ok (.dup, 1) := by decide +kernel
theorem dX2_passMinuteAt_60 : decode cX2_passMinuteAt 60 = .ok (.getfield 9, 3) := by decide +kernel
theorem dX2_passMinuteAt_63 : decode cX2_passMinuteAt 63 = .ok (.iconst 1, 1) := by decide +kernel
theorem dX2_passMinuteAt_64 : decode cX2_passMinuteAt 64 = .ok (.iadd, 1) := by decide +kernel
theorem dX2_passMinuteAt_65 : decode cX2_passMinuteAt 65 = .ok (.putfield 9, 3) := by decide +kernel
theorem dX2_passMinuteAt_68 : decode cX2_passMinuteAt 68 = .ok (.aload_n 0, 1) := by decide +kernel
theorem dX2_passMinuteAt_69 : decode cX2_passMinuteAt 69 = .ok (.getfield 21, 3) := by decide +kernel
theorem dX2_passMinuteAt_72 : decode cX2_passMinuteAt 72 = .ok (.ifCond .ne 7, 3) := by decide +kernel
theorem dX2_passMinuteAt_75 : decode cX2_passMinuteAt 75 = .ok (.iconst 1, 1) := by decide +kernel
theorem dX2_passMinuteAt_76 : decode cX2_passMinuteAt 76 = .ok (.goto 4, 3) := by decide +kernel
theorem dX2_passMinuteAt_79 : decode cX2_passMinuteAt 79 = .ok (.iconst 0, 1) := by decide +kernel
theorem dX2_passMinuteAt_80 : decode cX2_passMinuteAt 80 = .ok (.ireturn, 1) := by decide +kernel
theorem hd_X2_passMinuteAt : yX2_passMinuteAt.cls = RX2 ∧ yX2_passMinuteAt.cls ≠ "java/lang/invoke/MethodHandle" ∧ yX2_passMinuteAt.cls ≠ "java/lang/invoke/VarHandle" ∧ (parseMethodDescriptor yX2_passMinuteAt.desc).map (fun d => d.parameters.length) = some 1 := by decide +kernel
abbrev rm_X2_passMinuteAt : Room := { frames := 4, cells := 0, slots := 0, locals := 91 }
def wp_X2_passMinuteAt_58 (K : Int32 → HF → Prop) (n : Nat) (F : HF) : Prop := ∀ F103 : HF, F103 = hup F n 2 ((F n 2) + (1 : Int32)) → (((¬ (F103 n 5) = 0) → (K (0 : Int32) F103)) ∧ (((F103 n 5) = 0) → (K (1 : Int32) F103)))
set_option maxRecDepth 100000 in
set_option maxHeartbeats 4000000 in
theorem k_X2_passMinuteAt_58 {p : Program} {l : Launch} {e : Env} {s : State} {m : MethodId} {args : Array Value} {below : List Frame} {meth : Method} {c : Code} {D : va_G} {dA : Nat → ClassId} {ad : Nat → Nat} {R : List Nat} {A : Nat → Prop} {K : Int32 → HF → Prop} {n : Nat} (X : Cx p s m args meth c cX2_passMinuteAt 2 RX2 D dA) (hA : ∀ q, s.heap.size ≤ q → A q) (hr : meth.sig.returnType = some .boolean) (hT : Nt R n) : ∀ (F : HF), wp_X2_passMinuteAt_58 K n F  → J p l e rm_X2_passMinuteAt s m args below meth c 2 D dA ad R A (QI D dA ad R A below args s K) F 58 [(0, .ref (ad n))] [] := by
  intro F  h
  unfold wp_X2_passMinuteAt_58 at h
  refine r_aload_n (pc := 58) X 0 dX2_passMinuteAt_58 rfl rfl ?_
  refine r_dup (pc := 59) X dX2_passMinuteAt_59 rfl ?_
  refine fg_X2_9 (pc := 60) X hT.1 dX2_passMinuteAt_60 ?_
  refine r_iconst (pc := 63) (v := (1 : Int32)) X dX2_passMinuteAt_63 (by decide) ?_
  refine r_iadd (pc := 64) X dX2_passMinuteAt_64 ?_
  refine fp_X2_9 (pc := 65) X hT.1 dX2_passMinuteAt_65 (fun F103 e1 => ?_)
  replace h := h F103 e1
  refine r_aload_n (pc := 68) X 0 dX2_passMinuteAt_68 rfl rfl ?_
  refine fg_X2_21 (pc := 69) X hT.1 dX2_passMinuteAt_69 ?_
  refine r_if_ne (pc := 72) (tgt := 79) X dX2_passMinuteAt_72 (by decide) (fun hc => ?_) (fun hc => ?_)
  · replace h := h.1 hc
    refine r_iconst (pc := 79) (v := (0 : Int32)) X dX2_passMinuteAt_79 (by decide) ?_
    exact r_zret (pc := 80) X hr dX2_passMinuteAt_80 nb0 h
  · replace h := h.2 hc
    refine r_iconst (pc := 75) (v := (1 : Int32)) X dX2_passMinuteAt_75 (by decide) ?_
    refine r_goto (pc := 76) (tgt := 80) X dX2_passMinuteAt_76 (by decide) ?_
    exact r_zret (pc := 80) X hr dX2_passMinuteAt_80 nb1 h
def wp_X2_passMinuteAt_55 (K : Int32 → HF → Prop) (n : Nat) (F : HF) (s1 : Int32) : Prop := (s1 = 0 ∨ s1 = 1) ∧ (∀ F208 : HF, F208 = hup F n 5 s1 → (wp_X2_passMinuteAt_58 K n  F208))
set_option maxRecDepth 100000 in
set_option maxHeartbeats 4000000 in
theorem k_X2_passMinuteAt_55 {p : Program} {l : Launch} {e : Env} {s : State} {m : MethodId} {args : Array Value} {below : List Frame} {meth : Method} {c : Code} {D : va_G} {dA : Nat → ClassId} {ad : Nat → Nat} {R : List Nat} {A : Nat → Prop} {K : Int32 → HF → Prop} {n : Nat} (X : Cx p s m args meth c cX2_passMinuteAt 2 RX2 D dA) (hA : ∀ q, s.heap.size ≤ q → A q) (hr : meth.sig.returnType = some .boolean) (hT : Nt R n) : ∀ (F : HF) (s1 : Int32), wp_X2_passMinuteAt_55 K n F s1 → J p l e rm_X2_passMinuteAt s m args below meth c 2 D dA ad R A (QI D dA ad R A below args s K) F 55 [(0, .ref (ad n))] [.int s1, .ref (ad n)] := by
  intro F s1 h
  unfold wp_X2_passMinuteAt_55 at h
  refine fp_X2_21 (pc := 55) X h.1 hT.1 dX2_passMinuteAt_55 (fun F208 e1 => ?_)
  replace h := h.2 F208 e1
  exact k_X2_passMinuteAt_58 X hA hr hT  _ h
def wp_X2_passMinuteAt (K : Int32 → HF → Prop) (F : HF) (n : Nat) (a1 : Int32) : Prop := ∀ F1 : HF, F1 = hup F n 4 a1 → (wp_X2_isOnBridge (fun x1 F2 => ((x1 = 0) → (wp_X2_passMinuteAt_58 K n  F2)) ∧ ((¬ x1 = 0) → (wp_X2_weight (fun x2 F104 => wp_X1_windIn (fun x3 F105 => wp_X0_loadAlone (fun F106 => wp_X0_settle (fun x4 F107 => ((¬ x4 = 0) → (wp_X2_passMinuteAt_55 K n  F107 (0 : Int32))) ∧ ((x4 = 0) → (wp_X2_passMinuteAt_55 K n  F107 (1 : Int32)))) F106 (n + 1)) F105 (n + 1) (F2 n 4) (x2 + x3)) F104 4 (F104 n 2)) F2 n))) F1 n)
set_option maxRecDepth 100000 in
set_option maxHeartbeats 4000000 in
theorem c_X2_passMinuteAt {l : Launch} {D : va_G} {dA : Nat → ClassId} {ad : Nat → Nat} {R : List Nat} {F : HF} {n : Nat} {a1 : Int32} {K : Int32 → HF → Prop} (hT : Nt R n) (h : wp_X2_passMinuteAt K F n a1) : MI l yX2_passMinuteAt cX2_passMinuteAt 2 .boolean rm_X2_passMinuteAt D dA ad R F [.ref (ad n), .int a1] K := by
  refine MI.of (own := RX2) (by decide) rfl (Nat.le_of_ble_eq_true rfl) ?_
  intro p e s m args below meth c A hA X hr
  unfold wp_X2_passMinuteAt at h
  show J p l e rm_X2_passMinuteAt s m args below meth c 2 D dA ad R A (QI D dA ad R A below args s K) F 0 [(0, .ref (ad n)), (1, .int a1)] []
  refine r_aload_n (pc := 0) X 0 dX2_passMinuteAt_0 rfl rfl ?_
  refine r_iload_n (pc := 1) X 1 dX2_passMinuteAt_1 rfl rfl ?_
  refine fp_X2_18 (pc := 2) X hT.1 dX2_passMinuteAt_2 (fun F1 e1 => ?_)
  replace h := h F1 e1
  refine r_aload_n (pc := 5) X 0 dX2_passMinuteAt_5 rfl rfl ?_
  refine r_callIV (pc := 6) (As := []) (st := []) X hA (c_X2_isOnBridge hT h) g_X2_55 cl_X2 hT.1 hd_X2_isOnBridge rfl rfl rfl ⟨Nat.le_of_ble_eq_true rfl, Nat.le_of_ble_eq_true rfl⟩ rfl (Nat.le_of_ble_eq_true rfl) dX2_passMinuteAt_6 (fun x1 F2 h => ?_)
  refine r_if_eq (pc := 9) (tgt := 58) X dX2_passMinuteAt_9 (by decide) (fun hc => ?_) (fun hc => ?_)
  · replace h := h.1 hc
    refine r_sub [0] rfl ?_
    exact k_X2_passMinuteAt_58 X hA hr hT  _ h
  · replace h := h.2 hc
    refine r_aload_n (pc := 12) X 0 dX2_passMinuteAt_12 rfl rfl ?_
    refine fg_X2_34 (pc := 13) X hT.1 dX2_passMinuteAt_13 ?_
    refine r_aload_n (pc := 16) X 0 dX2_passMinuteAt_16 rfl rfl ?_
    refine fg_X2_18 (pc := 17) X hT.1 dX2_passMinuteAt_17 ?_
    refine r_aload_n (pc := 20) X 0 dX2_passMinuteAt_20 rfl rfl ?_
    refine r_callIV (pc := 21) (As := []) (st := [.int (F2 n 4), .ref (ad (n + 1))]) X hA (c_X2_weight hT h) g_X2_59 cl_X2 hT.1 hd_X2_weight rfl rfl rfl ⟨Nat.le_of_ble_eq_true rfl, Nat.le_of_ble_eq_true rfl⟩ rfl (Nat.le_of_ble_eq_true rfl) dX2_passMinuteAt_21 (fun x2 F104 h => ?_)
    refine r_aload_n (pc := 24) X 0 dX2_passMinuteAt_24 rfl rfl ?_
    refine fg_X2_25 (pc := 25) X hT.1 dX2_passMinuteAt_25 ?_
    refine r_aload_n (pc := 28) X 0 dX2_passMinuteAt_28 rfl rfl ?_
    refine fg_X2_9 (pc := 29) X hT.1 dX2_passMinuteAt_29 ?_
    refine r_callIV (pc := 32) (As := [.int (F104 n 2)]) (st := [.int x2, .int (F2 n 4), .ref (ad (n + 1))]) X hA (c_X1_windIn hT.2.2.2.2.2 h) g_X2_62 cl_X1 hT.2.2.2.2.2.1 hd_X1_windIn rfl rfl rfl ⟨Nat.le_of_ble_eq_true rfl, Nat.le_of_ble_eq_true rfl⟩ rfl (Nat.le_of_ble_eq_true rfl) dX2_passMinuteAt_32 (fun x3 F105 h => ?_)
    refine r_iadd (pc := 35) X dX2_passMinuteAt_35 ?_
    refine r_callVV (pc := 36) (As := [.int (F2 n 4), .int (x2 + x3)]) (st := []) X hA (c_X0_loadAlone hT.2 h) g_X2_65 cl_X0 hT.2.1 hd_X0_loadAlone rfl rfl rfl ⟨Nat.le_of_ble_eq_true rfl, Nat.le_of_ble_eq_true rfl⟩ rfl (Nat.le_of_ble_eq_true rfl) dX2_passMinuteAt_36 (fun F106 h => ?_)
    refine r_aload_n (pc := 39) X 0 dX2_passMinuteAt_39 rfl rfl ?_
    refine r_aload_n (pc := 40) X 0 dX2_passMinuteAt_40 rfl rfl ?_
    refine fg_X2_34 (pc := 41) X hT.1 dX2_passMinuteAt_41 ?_
    refine r_callIV (pc := 44) (As := []) (st := [.ref (ad n)]) X hA (c_X0_settle hT.2 h) g_X2_69 cl_X0 hT.2.1 hd_X0_settle rfl rfl rfl ⟨Nat.le_of_ble_eq_true rfl, Nat.le_of_ble_eq_true rfl⟩ rfl (Nat.le_of_ble_eq_true rfl) dX2_passMinuteAt_44 (fun x4 F107 h => ?_)
    refine r_if_ne (pc := 47) (tgt := 54) X dX2_passMinuteAt_47 (by decide) (fun hc => ?_) (fun hc => ?_)
    · replace h := h.1 hc
      refine r_iconst (pc := 54) (v := (0 : Int32)) X dX2_passMinuteAt_54 (by decide) ?_
      refine r_sub [0] rfl ?_
      exact k_X2_passMinuteAt_55 X hA hr hT  _ _ h
    · replace h := h.2 hc
      refine r_iconst (pc := 50) (v := (1 : Int32)) X dX2_passMinuteAt_50 (by decide) ?_
      refine r_goto (pc := 51) (tgt := 55) X dX2_passMinuteAt_51 (by decide) ?_
      refine r_sub [0] rfl ?_
      exact k_X2_passMinuteAt_55 X hA hr hT  _ _ h
end
section
theorem dX5_size_0 : decode cX5_size 0 = .ok (.aload_n 0, 1) := by decide +kernel
theorem dX5_size_1 : decode cX5_size 1 = .ok (.getfield 7, 3) := by decide +kernel
theorem dX5_size_4 : decode cX5_size 4 = .ok (.ireturn, 1) := by decide +kernel
theorem hd_X5_size : yX5_size.cls = RX5 ∧ yX5_size.cls ≠ "java/lang/invoke/MethodHandle" ∧ yX5_size.cls ≠ "java/lang/invoke/VarHandle" ∧ (parseMethodDescriptor yX5_size.desc).map (fun d => d.parameters.length) = some 0 := by decide +kernel
abbrev rm_X5_size : Room := { frames := 0, cells := 0, slots := 0, locals := 0 }
def wp_X5_size (K : Int32 → HF → Prop) (F : HF) (s : Nat) (ln : Nat) : Prop := K (F s 1) F
set_option maxRecDepth 100000 in
set_option maxHeartbeats 4000000 in
theorem c_X5_size {l : Launch} {D : va_G} {dA : Nat → ClassId} {ad : Nat → Nat} {R : List Nat} {F : HF} {s : Nat} {ln : Nat} {K : Int32 → HF → Prop} (hT : Sh R s ln) (h : wp_X5_size K F s ln) : MI l yX5_size cX5_size 1 .int rm_X5_size D dA ad R F [.ref (ad s)] K := by
  refine MI.of (own := RX5) (by decide) rfl (Nat.le_of_ble_eq_true rfl) ?_
  intro p e st₁ m args below meth c A hA X hr
  unfold wp_X5_size at h
  show J p l e rm_X5_size st₁ m args below meth c 1 D dA ad R A (QI D dA ad R A below args st₁ K) F 0 [(0, .ref (ad s))] []
  refine r_aload_n (pc := 0) X 0 dX5_size_0 rfl rfl ?_
  refine fg_X5_7 (pc := 1) X hT.1 dX5_size_1 ?_
  exact r_iret (pc := 4) X hr dX5_size_4 h
theorem dX5_isFull_0 : decode cX5_isFull 0 = .ok (.aload_n 0, 1) := by decide +kernel
theorem dX5_isFull_1 : decode cX5_isFull 1 = .ok (.getfield 7, 3) := by decide +kernel
theorem dX5_isFull_4 : decode cX5_isFull 4 = .ok (.aload_n 0, 1) := by decide +kernel
theorem dX5_isFull_5 : decode cX5_isFull 5 = .ok (.getfield 21, 3) := by decide +kernel
theorem dX5_isFull_8 : decode cX5_isFull 8 = .ok (.arraylength, 1) := by decide +kernel
theorem dX5_isFull_9 : decode cX5_isFull 9 = .ok (.if_icmp .lt 7, 3) := by decide +kernel
theorem dX5_isFull_12 : decode cX5_isFull 12 = .ok (.iconst 1, 1) := by decide +kernel
theorem dX5_isFull_13 : decode cX5_isFull 13 = .ok (.goto 4, 3) := by decide +kernel
theorem dX5_isFull_16 : decode cX5_isFull 16 = .ok (.iconst 0, 1) := by decide +kernel
theorem dX5_isFull_17 : decode cX5_isFull 17 = .ok (.ireturn, 1) := by decide +kernel
theorem hd_X5_isFull : yX5_isFull.cls = RX5 ∧ yX5_isFull.cls ≠ "java/lang/invoke/MethodHandle" ∧ yX5_isFull.cls ≠ "java/lang/invoke/VarHandle" ∧ (parseMethodDescriptor yX5_isFull.desc).map (fun d => d.parameters.length) = some 0 := by decide +kernel
abbrev rm_X5_isFull : Room := { frames := 0, cells := 0, slots := 0, locals := 0 }
def wp_X5_isFull (K : Int32 → HF → Prop) (F : HF) (s : Nat) (ln : Nat) : Prop := (((F s 1) < (Int32.ofNat ln)) → (K (0 : Int32) F)) ∧ ((¬ (F s 1) < (Int32.ofNat ln)) → (K (1 : Int32) F))
set_option maxRecDepth 100000 in
set_option maxHeartbeats 4000000 in
theorem c_X5_isFull {l : Launch} {D : va_G} {dA : Nat → ClassId} {ad : Nat → Nat} {R : List Nat} {F : HF} {s : Nat} {ln : Nat} {K : Int32 → HF → Prop} (hT : Sh R s ln) (h : wp_X5_isFull K F s ln) : MI l yX5_isFull cX5_isFull 1 .boolean rm_X5_isFull D dA ad R F [.ref (ad s)] K := by
  refine MI.of (own := RX5) (by decide) rfl (Nat.le_of_ble_eq_true rfl) ?_
  intro p e st₁ m args below meth c A hA X hr
  unfold wp_X5_isFull at h
  show J p l e rm_X5_isFull st₁ m args below meth c 1 D dA ad R A (QI D dA ad R A below args st₁ K) F 0 [(0, .ref (ad s))] []
  refine r_aload_n (pc := 0) X 0 dX5_isFull_0 rfl rfl ?_
  refine fg_X5_7 (pc := 1) X hT.1 dX5_isFull_1 ?_
  refine r_aload_n (pc := 4) X 0 dX5_isFull_4 rfl rfl ?_
  refine fg_X5_21 (pc := 5) X hT.1 dX5_isFull_5 ?_
  refine r_alen (pc := 8) (v := (Int32.ofNat ln)) X (Or.inr (Or.inr hT.2.1)) rfl dX5_isFull_8 ?_
  refine r_icmp_lt (pc := 9) (tgt := 16) X dX5_isFull_9 (by decide) (fun hc => ?_) (fun hc => ?_)
  · replace h := h.1 hc
    refine r_iconst (pc := 16) (v := (0 : Int32)) X dX5_isFull_16 (by decide) ?_
    exact r_zret (pc := 17) X hr dX5_isFull_17 nb0 h
  · replace h := h.2 hc
    refine r_iconst (pc := 12) (v := (1 : Int32)) X dX5_isFull_12 (by decide) ?_
    refine r_goto (pc := 13) (tgt := 17) X dX5_isFull_13 (by decide) ?_
    exact r_zret (pc := 17) X hr dX5_isFull_17 nb1 h
theorem dX5_clear_0 : decode cX5_clear 0 = .ok (.aload_n 0, 1) := by decide +kernel
theorem dX5_clear_1 : decode cX5_clear 1 = .ok (.iconst 0, 1) := by decide +kernel
theorem dX5_clear_2 : decode cX5_clear 2 = .ok (.putfield 7, 3) := by decide +kernel
theorem dX5_clear_5 : decode cX5_clear 5 = .ok (.return_, 1) := by decide +kernel
theorem hd_X5_clear : yX5_clear.cls = RX5 ∧ yX5_clear.cls ≠ "java/lang/invoke/MethodHandle" ∧ yX5_clear.cls ≠ "java/lang/invoke/VarHandle" ∧ (parseMethodDescriptor yX5_clear.desc).map (fun d => d.parameters.length) = some 0 := by decide +kernel
abbrev rm_X5_clear : Room := { frames := 0, cells := 0, slots := 0, locals := 0 }
def wp_X5_clear (K : HF → Prop) (F : HF) (s : Nat) (ln : Nat) : Prop := ∀ F1 : HF, F1 = hup F s 1 (0 : Int32) → (K F1)
set_option maxRecDepth 100000 in
set_option maxHeartbeats 4000000 in
theorem c_X5_clear {l : Launch} {D : va_G} {dA : Nat → ClassId} {ad : Nat → Nat} {R : List Nat} {F : HF} {s : Nat} {ln : Nat} {K : HF → Prop} (hT : Sh R s ln) (h : wp_X5_clear K F s ln) : MV l yX5_clear cX5_clear 1 rm_X5_clear D dA ad R F [.ref (ad s)] K := by
  refine MV.of (own := RX5) (by decide) rfl (Nat.le_of_ble_eq_true rfl) ?_
  intro p e st₁ m args below meth c A hA X hr
  unfold wp_X5_clear at h
  show J p l e rm_X5_clear st₁ m args below meth c 1 D dA ad R A (QV D dA ad R A below args st₁ K) F 0 [(0, .ref (ad s))] []
  refine r_aload_n (pc := 0) X 0 dX5_clear_0 rfl rfl ?_
  refine r_iconst (pc := 1) (v := (0 : Int32)) X dX5_clear_1 (by decide) ?_
  refine fp_X5_7 (pc := 2) X hT.1 dX5_clear_2 (fun F1 e1 => ?_)
  replace h := h F1 e1
  exact r_vret (pc := 5) X hr dX5_clear_5 h
theorem dX5_giveUpOldest_0 : decode cX5_giveUpOldest 0 = .ok (.aload_n 0, 1) := by decide +kernel
theorem dX5_giveUpOldest_1 : decode cX5_giveUpOldest 1 = .ok (.getfield 21, 3) := by decide +kernel
theorem dX5_giveUpOldest_4 : decode cX5_giveUpOldest 4 = .ok (.iconst 0, 1) := by decide +kernel
theorem dX5_giveUpOldest_5 : decode cX5_giveUpOldest 5 = .ok (.aaload, 1) := by decide +kernel
theorem dX5_giveUpOldest_6 : decode cX5_giveUpOldest 6 = .ok (.astore_n 1, 1) := by decide +kernel
theorem dX5_giveUpOldest_7 : decode cX5_giveUpOldest 7 = .ok (.iconst 1, 1) := by decide +kernel
theorem dX5_giveUpOldest_8 : decode cX5_giveUpOldest 8 = .ok (.istore_n 2, 1) := by decide +kernel
theorem dX5_giveUpOldest_9 : decode cX5_giveUpOldest 9 = .ok (.iload_n 2, 1) := by decide +kernel
theorem dX5_giveUpOldest_10 : decode cX5_giveUpOldest 10 = .ok (.aload_n 0, 1) := by decide +kernel
theorem dX5_giveUpOldest_11 : decode cX5_giveUpOldest 11 = .ok (.getfield 21, 3) := by decide +kernel
theorem dX5_giveUpOldest_14 : decode cX5_giveUpOldest 14 = .ok (.arraylength, 1) := by decide +kernel
theorem dX5_giveUpOldest_15 : decode cX5_giveUpOldest 15 = .ok (.if_icmp .ge 23, 3) := by decide +kernel
theorem dX5_giveUpOldest_18 : decode cX5_giveUpOldest 18 = .ok (.aload_n 0, 1) := by decide +kernel
theorem dX5_giveUpOldest_19 : decode cX5_giveUpOldest 19 = .ok (.getfield 21, 3) := by decide +kernel
theorem dX5_giveUpOldest_22 : decode cX5_giveUpOldest 22 = .ok (.iload_n 2, 1) := by decide +kernel
theorem dX5_giveUpOldest_23 : decode cX5_giveUpOldest 23 = .ok (.iconst 1, 1) := by decide +kernel
theorem dX5_giveUpOldest_24 : decode cX5_giveUpOldest 24 = .ok (.isub, 1) := by decide +kernel
theorem dX5_giveUpOldest_25 : decode cX5_giveUpOldest 25 = .ok (.aload_n 0, 1) := by decide +kernel
theorem dX5_giveUpOldest_26 : decode cX5_giveUpOldest 26 = .ok (.getfield 21, 3) := by decide +kernel
theorem dX5_giveUpOldest_29 : decode cX5_giveUpOldest 29 = .ok (.iload_n 2, 1) := by decide +kernel
theorem dX5_giveUpOldest_30 : decode cX5_giveUpOldest 30 = .ok (.aaload, 1) := by decide +kernel
theorem dX5_giveUpOldest_31 : decode cX5_giveUpOldest 31 = .ok (.aastore, 1) := by decide +kernel
theorem dX5_giveUpOldest_32 : decode cX5_giveUpOldest 32 = .ok (.iinc 2 1, 3) := by decide +kernel
theorem dX5_giveUpOldest_35 : decode cX5_giveUpOldest 35 = .ok (.goto (-26), 3) := by decide +kernel
theorem dX5_giveUpOldest_38 : decode cX5_giveUpOldest 38 = .ok (.aload_n 0, 1) := by decide +kernel
theorem dX5_giveUpOldest_39 : decode cX5_giveUpOldest 39 = .ok (.getfield 21, 3) := by decide +kernel
theorem dX5_giveUpOldest_42 : decode cX5_giveUpOldest 42 = .ok (.aload_n 0, 1) := by decide +kernel
theorem dX5_giveUpOldest_43 : decode cX5_giveUpOldest 43 = .ok (.getfield 21, 3) := by decide +kernel
theorem dX5_giveUpOldest_46 : decode cX5_giveUpOldest 46 = .ok (.arraylength, 1) := by decide +kernel
theorem dX5_giveUpOldest_47 : decode cX5_giveUpOldest 47 = .ok (.iconst 1, 1) := by decide +kernel
theorem dX5_giveUpOldest_48 : decode cX5_giveUpOldest 48 = .ok (.isub, 1) := by decide +kernel
theorem dX5_giveUpOldest_49 : decode cX5_giveUpOldest 49 = .ok (.aload_n 1, 1) := by decide +kernel
theorem dX5_giveUpOldest_50 : decode cX5_giveUpOldest 50 = .ok (.aastore, 1) := by decide +kernel
theorem dX5_giveUpOldest_51 : decode cX5_giveUpOldest 51 = .ok (.aload_n 0, 1) := by decide +kernel
theorem dX5_giveUpOldest_52 : decode cX5_giveUpOldest 52 = .ok (.dup, 1) := by decide +kernel
theorem dX5_giveUpOldest_53 : decode cX5_giveUpOldest 53 = .ok (.getfield 7, 3) := by decide +kernel
theorem dX5_giveUpOldest_56 : decode cX5_giveUpOldest 56 = .ok (.iconst 1, 1) := by decide +kernel
theorem dX5_giveUpOldest_57 : decode cX5_giveUpOldest 57 = .ok (.isub, 1) := by decide +kernel
theorem dX5_giveUpOldest_58 : decode cX5_giveUpOldest 58 = .ok (.putfield 7, 3) := by decide +kernel
theorem dX5_giveUpOldest_61 : decode cX5_giveUpOldest 61 = .ok (.return_, 1) := by decide +kernel
theorem hd_X5_giveUpOldest : yX5_giveUpOldest.cls = RX5 ∧ yX5_giveUpOldest.cls ≠ "java/lang/invoke/MethodHandle" ∧ yX5_giveUpOldest.cls ≠ "java/lang/invoke/VarHandle" ∧ (parseMethodDescriptor yX5_giveUpOldest.desc).map (fun d => d.parameters.length) = some 0 := by decide +kernel
abbrev rm_X5_giveUpOldest : Room := { frames := 0, cells := 0, slots := 0, locals := 0 }
def wp_X5_giveUpOldest_9 (K : HF → Prop) (s : Nat) (ln : Nat) (v1 : Nat) : Nat → HF → Int32 → Prop
  | 0 => fun _ _ => False
  | n_ + 1 => fun F v2 => (((Int32.ofNat ln) ≤ v2) → ((vp_in ((Int32.ofNat ln) - (1 : Int32)) ln) ∧ (∀ F101 : HF, F101 = hup F (s + 1) ((Int32.ofNat ln) - (1 : Int32)).toNatClampNeg (nI v1) → (∀ F102 : HF, F102 = hup F101 s 1 ((F101 s 1) - (1 : Int32)) → (K F102))))) ∧ ((¬ (Int32.ofNat ln) ≤ v2) → ((vp_in v2 ln) ∧ ((F (s + 1) v2.toNatClampNeg).toNatClampNeg ∈ ntL) ∧ ((vp_in (v2 - (1 : Int32)) ln) ∧ (∀ F103 : HF, F103 = hup F (s + 1) (v2 - (1 : Int32)).toNatClampNeg (nI (F (s + 1) v2.toNatClampNeg).toNatClampNeg) → (wp_X5_giveUpOldest_9 K s ln v1 n_ F103 (v2 + (1)))))))
set_option maxRecDepth 100000 in
set_option maxHeartbeats 4000000 in
theorem k_X5_giveUpOldest_9 {p : Program} {l : Launch} {e : Env} {st₁ : State} {m : MethodId} {args : Array Value} {below : List Frame} {meth : Method} {c : Code} {D : va_G} {dA : Nat → ClassId} {ad : Nat → Nat} {R : List Nat} {A : Nat → Prop} {K : HF → Prop} {s : Nat} {ln : Nat} {v1 : Nat} (X : Cx p st₁ m args meth c cX5_giveUpOldest 3 RX5 D dA) (hA : ∀ q, st₁.heap.size ≤ q → A q) (hr : meth.sig.returnType = none) (hT : Sh R s ln) (hv1 : v1 ∈ ntL) : ∀ (n_ : Nat) (F : HF) (v2 : Int32), wp_X5_giveUpOldest_9 K s ln v1 n_ F v2 → J p l e rm_X5_giveUpOldest st₁ m args below meth c 3 D dA ad R A (QV D dA ad R A below args st₁ K) F 9 [(0, .ref (ad s)), (1, .ref (ad v1)), (2, .int v2)] [] := by
  intro n_
  induction n_ with
  | zero => intro F v2 h; exact h.elim
  | succ n_ ih =>
    intro F v2 h
    unfold wp_X5_giveUpOldest_9 at h
    refine r_iload_n (pc := 9) X 2 dX5_giveUpOldest_9 rfl rfl ?_
    refine r_aload_n (pc := 10) X 0 dX5_giveUpOldest_10 rfl rfl ?_
    refine fg_X5_21 (pc := 11) X hT.1 dX5_giveUpOldest_11 ?_
    refine r_alen (pc := 14) (v := (Int32.ofNat ln)) X (Or.inr (Or.inr hT.2.1)) rfl dX5_giveUpOldest_14 ?_
    refine r_icmp_ge (pc := 15) (tgt := 38) X dX5_giveUpOldest_15 (by decide) (fun hc => ?_) (fun hc => ?_)
    · replace h := h.1 hc
      refine r_aload_n (pc := 38) X 0 dX5_giveUpOldest_38 rfl rfl ?_
      refine fg_X5_21 (pc := 39) X hT.1 dX5_giveUpOldest_39 ?_
      refine r_aload_n (pc := 42) X 0 dX5_giveUpOldest_42 rfl rfl ?_
      refine fg_X5_21 (pc := 43) X hT.1 dX5_giveUpOldest_43 ?_
      refine r_alen (pc := 46) (v := (Int32.ofNat ln)) X (Or.inr (Or.inr hT.2.1)) rfl dX5_giveUpOldest_46 ?_
      refine r_iconst (pc := 47) (v := (1 : Int32)) X dX5_giveUpOldest_47 (by decide) ?_
      refine r_isub (pc := 48) X dX5_giveUpOldest_48 ?_
      refine r_aload_n (pc := 49) X 1 dX5_giveUpOldest_49 rfl rfl ?_
      refine r_aast (pc := 50) X hT.2.1 (hT.2.2 _ hv1).1 (nt_lt hv1) h.1 dX5_giveUpOldest_50 (fun F101 e1 => ?_)
      replace h := h.2 F101 e1
      refine r_aload_n (pc := 51) X 0 dX5_giveUpOldest_51 rfl rfl ?_
      refine r_dup (pc := 52) X dX5_giveUpOldest_52 rfl ?_
      refine fg_X5_7 (pc := 53) X hT.1 dX5_giveUpOldest_53 ?_
      refine r_iconst (pc := 56) (v := (1 : Int32)) X dX5_giveUpOldest_56 (by decide) ?_
      refine r_isub (pc := 57) X dX5_giveUpOldest_57 ?_
      refine fp_X5_7 (pc := 58) X hT.1 dX5_giveUpOldest_58 (fun F102 e1 => ?_)
      replace h := h F102 e1
      exact r_vret (pc := 61) X hr dX5_giveUpOldest_61 h
    · replace h := h.2 hc
      refine r_aload_n (pc := 18) X 0 dX5_giveUpOldest_18 rfl rfl ?_
      refine fg_X5_21 (pc := 19) X hT.1 dX5_giveUpOldest_19 ?_
      refine r_iload_n (pc := 22) X 2 dX5_giveUpOldest_22 rfl rfl ?_
      refine r_iconst (pc := 23) (v := (1 : Int32)) X dX5_giveUpOldest_23 (by decide) ?_
      refine r_isub (pc := 24) X dX5_giveUpOldest_24 ?_
      refine r_aload_n (pc := 25) X 0 dX5_giveUpOldest_25 rfl rfl ?_
      refine fg_X5_21 (pc := 26) X hT.1 dX5_giveUpOldest_26 ?_
      refine r_iload_n (pc := 29) X 2 dX5_giveUpOldest_29 rfl rfl ?_
      refine r_aald (pc := 30) X hT.2.1 h.1 dX5_giveUpOldest_30 ?_
      have hd2 := h.2.1
      replace h := h.2.2
      refine r_aast (pc := 31) X hT.2.1 (hT.2.2 _ hd2).1 (nt_lt hd2) h.1 dX5_giveUpOldest_31 (fun F103 e1 => ?_)
      replace h := h.2 F103 e1
      refine r_iinc (pc := 32) (v := (v2 + (1))) X 2 [(2, .int (v2 + (1))), (0, .ref (ad s)), (1, .ref (ad v1))] dX5_giveUpOldest_32 rfl rfl (by decide) rfl ?_
      refine r_goto (pc := 35) (tgt := 9) X dX5_giveUpOldest_35 (by decide) ?_
      refine r_sub [1, 2, 0] rfl ?_
      exact ih _ _ h
def wp_X5_giveUpOldest (K : HF → Prop) (F : HF) (s : Nat) (ln : Nat) : Prop := (vp_in (0 : Int32) ln) ∧ ((F (s + 1) (0 : Int32).toNatClampNeg).toNatClampNeg ∈ ntL) ∧ (∃ n_, wp_X5_giveUpOldest_9 K s ln (F (s + 1) (0 : Int32).toNatClampNeg).toNatClampNeg n_ F (1 : Int32))
set_option maxRecDepth 100000 in
set_option maxHeartbeats 4000000 in
theorem c_X5_giveUpOldest {l : Launch} {D : va_G} {dA : Nat → ClassId} {ad : Nat → Nat} {R : List Nat} {F : HF} {s : Nat} {ln : Nat} {K : HF → Prop} (hT : Sh R s ln) (h : wp_X5_giveUpOldest K F s ln) : MV l yX5_giveUpOldest cX5_giveUpOldest 3 rm_X5_giveUpOldest D dA ad R F [.ref (ad s)] K := by
  refine MV.of (own := RX5) (by decide) rfl (Nat.le_of_ble_eq_true rfl) ?_
  intro p e st₁ m args below meth c A hA X hr
  unfold wp_X5_giveUpOldest at h
  show J p l e rm_X5_giveUpOldest st₁ m args below meth c 3 D dA ad R A (QV D dA ad R A below args st₁ K) F 0 [(0, .ref (ad s))] []
  refine r_aload_n (pc := 0) X 0 dX5_giveUpOldest_0 rfl rfl ?_
  refine fg_X5_21 (pc := 1) X hT.1 dX5_giveUpOldest_1 ?_
  refine r_iconst (pc := 4) (v := (0 : Int32)) X dX5_giveUpOldest_4 (by decide) ?_
  refine r_aald (pc := 5) X hT.2.1 h.1 dX5_giveUpOldest_5 ?_
  have hd1 := h.2.1
  replace h := h.2.2
  refine r_astore_n (pc := 6) X [(1, .ref (ad (F (s + 1) (0 : Int32).toNatClampNeg).toNatClampNeg)), (0, .ref (ad s))] dX5_giveUpOldest_6 rfl (by decide) rfl ?_
  refine r_iconst (pc := 7) (v := (1 : Int32)) X dX5_giveUpOldest_7 (by decide) ?_
  refine r_istore_n (pc := 8) X [(2, .int (1 : Int32)), (1, .ref (ad (F (s + 1) (0 : Int32).toNatClampNeg).toNatClampNeg)), (0, .ref (ad s))] dX5_giveUpOldest_8 rfl (by decide) rfl ?_
  refine r_sub [2, 1, 0] rfl ?_
  obtain ⟨n1, h⟩ := h
  exact k_X5_giveUpOldest_9 X hA hr hT hd1  n1 _ _ h
theorem dX5_put_0 : decode cX5_put 0 = .ok (.aload_n 0, 1) := by decide +kernel
theorem dX5_put_1 : decode cX5_put 1 = .ok (.invokevirtual 28, 3) := by decide +kernel
theorem dX5_put_4 : decode cX5_put 4 = .ok (.ifCond .eq 7, 3) := by decide +kernel
theorem dX5_put_7 : decode cX5_put 7 = .ok (.aload_n 0, 1) := by decide +kernel
theorem dX5_put_8 : decode cX5_put 8 = .ok (.invokevirtual 32, 3) := by decide +kernel
theorem dX5_put_11 : decode cX5_put 11 = .ok (.aload_n 0, 1) := by decide +kernel
theorem dX5_put_12 : decode cX5_put 12 = .ok (.getfield 21, 3) := by decide +kernel
theorem dX5_put_15 : decode cX5_put 15 = .ok (.aload_n 0, 1) := by decide +kernel
theorem dX5_put_16 : decode cX5_put 16 = .ok (.getfield 7, 3) := by decide +kernel
theorem dX5_put_19 : decode cX5_put 19 = .ok (.aaload, 1) := by decide +kernel
theorem dX5_put_20 : decode cX5_put 20 = .ok (.aload_n 1, 1) := by decide +kernel
theorem dX5_put_21 : decode cX5_put 21 = .ok (.invokevirtual 35, 3) := by decide +kernel
theorem dX5_put_24 : decode cX5_put 24 = .ok (.aload_n 0, 1) := by decide +kernel
theorem dX5_put_25 : decode cX5_put 25 = .ok (.dup, 1) := by decide +kernel
theorem dX5_put_26 : decode cX5_put 26 = .ok (.getfield 7, 3) := by decide +kernel
theorem dX5_put_29 : decode cX5_put 29 = .ok (.iconst 1, 1) := by decide +kernel
theorem dX5_put_30 : decode cX5_put 30 = .ok (.iadd, 1) := by decide +kernel
theorem dX5_put_31 : decode cX5_put 31 = .ok (.putfield 7, 3) := by decide +kernel
theorem dX5_put_34 : decode cX5_put 34 = .ok (.return_, 1) := by decide +kernel
theorem hd_X5_put : yX5_put.cls = RX5 ∧ yX5_put.cls ≠ "java/lang/invoke/MethodHandle" ∧ yX5_put.cls ≠ "java/lang/invoke/VarHandle" ∧ (parseMethodDescriptor yX5_put.desc).map (fun d => d.parameters.length) = some 1 := by decide +kernel
abbrev rm_X5_put : Room := { frames := 3, cells := 0, slots := 0, locals := 90 }
def wp_X5_put_11 (K : HF → Prop) (s : Nat) (ln : Nat) (r1 : Nat) (F : HF) : Prop := (vp_in (F s 1) ln) ∧ ((F (s + 1) (F s 1).toNatClampNeg).toNatClampNeg ∈ ntL) ∧ (wp_X2_copyFrom (fun F102 => ∀ F103 : HF, F103 = hup F102 s 1 ((F102 s 1) + (1 : Int32)) → (K F103)) F (F (s + 1) (F s 1).toNatClampNeg).toNatClampNeg r1)
set_option maxRecDepth 100000 in
set_option maxHeartbeats 4000000 in
theorem k_X5_put_11 {p : Program} {l : Launch} {e : Env} {st₁ : State} {m : MethodId} {args : Array Value} {below : List Frame} {meth : Method} {c : Code} {D : va_G} {dA : Nat → ClassId} {ad : Nat → Nat} {R : List Nat} {A : Nat → Prop} {K : HF → Prop} {s : Nat} {ln : Nat} {r1 : Nat} (X : Cx p st₁ m args meth c cX5_put 2 RX5 D dA) (hA : ∀ q, st₁.heap.size ≤ q → A q) (hr : meth.sig.returnType = none) (hT : Sh R s ln) (hr1 : Nt R r1) : ∀ (F : HF), wp_X5_put_11 K s ln r1 F  → J p l e rm_X5_put st₁ m args below meth c 2 D dA ad R A (QV D dA ad R A below args st₁ K) F 11 [(0, .ref (ad s)), (1, .ref (ad r1))] [] := by
  intro F  h
  unfold wp_X5_put_11 at h
  refine r_aload_n (pc := 11) X 0 dX5_put_11 rfl rfl ?_
  refine fg_X5_21 (pc := 12) X hT.1 dX5_put_12 ?_
  refine r_aload_n (pc := 15) X 0 dX5_put_15 rfl rfl ?_
  refine fg_X5_7 (pc := 16) X hT.1 dX5_put_16 ?_
  refine r_aald (pc := 19) X hT.2.1 h.1 dX5_put_19 ?_
  have hd2 := h.2.1
  replace h := h.2.2
  refine r_aload_n (pc := 20) X 1 dX5_put_20 rfl rfl ?_
  refine r_callVV (pc := 21) (As := [.ref (ad r1)]) (st := []) X hA (c_X2_copyFrom (hT.2.2 _ hd2) hr1 h) g_X5_35 cl_X2 (hT.2.2 _ hd2).1 hd_X2_copyFrom rfl rfl rfl ⟨Nat.le_of_ble_eq_true rfl, Nat.le_of_ble_eq_true rfl⟩ rfl (Nat.le_of_ble_eq_true rfl) dX5_put_21 (fun F102 h => ?_)
  refine r_aload_n (pc := 24) X 0 dX5_put_24 rfl rfl ?_
  refine r_dup (pc := 25) X dX5_put_25 rfl ?_
  refine fg_X5_7 (pc := 26) X hT.1 dX5_put_26 ?_
  refine r_iconst (pc := 29) (v := (1 : Int32)) X dX5_put_29 (by decide) ?_
  refine r_iadd (pc := 30) X dX5_put_30 ?_
  refine fp_X5_7 (pc := 31) X hT.1 dX5_put_31 (fun F103 e1 => ?_)
  replace h := h F103 e1
  exact r_vret (pc := 34) X hr dX5_put_34 h
def wp_X5_put (K : HF → Prop) (F : HF) (s : Nat) (ln : Nat) (r1 : Nat) : Prop := wp_X5_isFull (fun x1 F1 => ((x1 = 0) → (wp_X5_put_11 K s ln r1  F1)) ∧ ((¬ x1 = 0) → (wp_X5_giveUpOldest (fun F104 => wp_X5_put_11 K s ln r1  F104) F1 s ln))) F s ln
set_option maxRecDepth 100000 in
set_option maxHeartbeats 4000000 in
theorem c_X5_put {l : Launch} {D : va_G} {dA : Nat → ClassId} {ad : Nat → Nat} {R : List Nat} {F : HF} {s : Nat} {ln : Nat} {r1 : Nat} {K : HF → Prop} (hT : Sh R s ln) (hr1 : Nt R r1) (h : wp_X5_put K F s ln r1) : MV l yX5_put cX5_put 2 rm_X5_put D dA ad R F [.ref (ad s), .ref (ad r1)] K := by
  refine MV.of (own := RX5) (by decide) rfl (Nat.le_of_ble_eq_true rfl) ?_
  intro p e st₁ m args below meth c A hA X hr
  unfold wp_X5_put at h
  show J p l e rm_X5_put st₁ m args below meth c 2 D dA ad R A (QV D dA ad R A below args st₁ K) F 0 [(0, .ref (ad s)), (1, .ref (ad r1))] []
  refine r_aload_n (pc := 0) X 0 dX5_put_0 rfl rfl ?_
  refine r_callIV (pc := 1) (As := []) (st := []) X hA (c_X5_isFull hT h) g_X5_28 cl_X5 hT.1 hd_X5_isFull rfl rfl rfl ⟨Nat.le_of_ble_eq_true rfl, Nat.le_of_ble_eq_true rfl⟩ rfl (Nat.le_of_ble_eq_true rfl) dX5_put_1 (fun x1 F1 h => ?_)
  refine r_if_eq (pc := 4) (tgt := 11) X dX5_put_4 (by decide) (fun hc => ?_) (fun hc => ?_)
  · replace h := h.1 hc
    exact k_X5_put_11 X hA hr hT hr1  _ h
  · replace h := h.2 hc
    refine r_aload_n (pc := 7) X 0 dX5_put_7 rfl rfl ?_
    refine r_callVV (pc := 8) (As := []) (st := []) X hA (c_X5_giveUpOldest hT h) g_X5_32 cl_X5 hT.1 hd_X5_giveUpOldest rfl rfl rfl ⟨Nat.le_of_ble_eq_true rfl, Nat.le_of_ble_eq_true rfl⟩ rfl (Nat.le_of_ble_eq_true rfl) dX5_put_8 (fun F104 h => ?_)
    exact k_X5_put_11 X hA hr hT hr1  _ h
theorem dX5_takeInto_0 : decode cX5_takeInto 0 = .ok (.aload_n 0, 1) := by decide +kernel
theorem dX5_takeInto_1 : decode cX5_takeInto 1 = .ok (.getfield 7, 3) := by decide +kernel
theorem dX5_takeInto_4 : decode cX5_takeInto 4 = .ok (.ifCond .gt 5, 3) := by decide +kernel
theorem dX5_takeInto_7 : decode cX5_takeInto 7 = .ok (.iconst 0, 1) := by decide +kernel
theorem dX5_takeInto_8 : decode cX5_takeInto 8 = .ok (.ireturn, 1) := by decide +kernel
theorem dX5_takeInto_9 : decode cX5_takeInto 9 = .ok (.aload_n 0, 1) := by decide +kernel
theorem dX5_takeInto_10 : decode cX5_takeInto 10 = .ok (.dup, 1) := by decide +kernel
theorem dX5_takeInto_11 : decode cX5_takeInto 11 = .ok (.getfield 7, 3) := by decide +kernel
theorem dX5_takeInto_14 : decode cX5_takeInto 14 = .ok (.iconst 1, 1) := by decide +kernel
theorem dX5_takeInto_15 : decode cX5_takeInto 15 = .ok (.isub, 1) := by decide +kernel
theorem dX5_takeInto_16 : decode cX5_takeInto 16 = .ok (.putfield 7, 3) := by decide +kernel
theorem dX5_takeInto_19 : decode cX5_takeInto 19 = .ok (.aload_n 1, 1) := by decide +kernel
theorem dX5_takeInto_20 : decode cX5_takeInto 20 = .ok (.aload_n 0, 1) := by decide +kernel
theorem dX5_takeInto_21 : decode cX5_takeInto 21 = .ok (.getfield 21, 3) := by decide +kernel
theorem dX5_takeInto_24 : decode cX5_takeInto 24 = .ok (.aload_n 0, 1) := by decide +kernel
theorem dX5_takeInto_25 : decode cX5_takeInto 25 = .ok (.getfield 7, 3) := by decide +kernel
theorem dX5_takeInto_28 : decode cX5_takeInto 28 = .ok (.aaload, 1) := by decide +kernel
theorem dX5_takeInto_29 : decode cX5_takeInto 29 = .ok (.invokevirtual 35, 3) := by decide +kernel
theorem dX5_takeInto_32 : decode cX5_takeInto 32 = .ok (.iconst 1, 1) := by decide +kernel
theorem dX5_takeInto_33 : decode cX5_takeInto 33 = .ok (.ireturn, 1) := by decide +kernel
theorem hd_X5_takeInto : yX5_takeInto.cls = RX5 ∧ yX5_takeInto.cls ≠ "java/lang/invoke/MethodHandle" ∧ yX5_takeInto.cls ≠ "java/lang/invoke/VarHandle" ∧ (parseMethodDescriptor yX5_takeInto.desc).map (fun d => d.parameters.length) = some 1 := by decide +kernel
abbrev rm_X5_takeInto : Room := { frames := 3, cells := 0, slots := 0, locals := 90 }
def wp_X5_takeInto (K : Int32 → HF → Prop) (F : HF) (s : Nat) (ln : Nat) (r1 : Nat) : Prop := ((0 < (F s 1)) → (∀ F1 : HF, F1 = hup F s 1 ((F s 1) - (1 : Int32)) → ((vp_in (F1 s 1) ln) ∧ ((F1 (s + 1) (F1 s 1).toNatClampNeg).toNatClampNeg ∈ ntL) ∧ (wp_X2_copyFrom (fun F2 => K (1 : Int32) F2) F1 r1 (F1 (s + 1) (F1 s 1).toNatClampNeg).toNatClampNeg)))) ∧ ((¬ 0 < (F s 1)) → (K (0 : Int32) F))
set_option maxRecDepth 100000 in
set_option maxHeartbeats 4000000 in
theorem c_X5_takeInto {l : Launch} {D : va_G} {dA : Nat → ClassId} {ad : Nat → Nat} {R : List Nat} {F : HF} {s : Nat} {ln : Nat} {r1 : Nat} {K : Int32 → HF → Prop} (hT : Sh R s ln) (hr1 : Nt R r1) (h : wp_X5_takeInto K F s ln r1) : MI l yX5_takeInto cX5_takeInto 2 .boolean rm_X5_takeInto D dA ad R F [.ref (ad s), .ref (ad r1)] K := by
  refine MI.of (own := RX5) (by decide) rfl (Nat.le_of_ble_eq_true rfl) ?_
  intro p e st₁ m args below meth c A hA X hr
  unfold wp_X5_takeInto at h
  show J p l e rm_X5_takeInto st₁ m args below meth c 2 D dA ad R A (QI D dA ad R A below args st₁ K) F 0 [(0, .ref (ad s)), (1, .ref (ad r1))] []
  refine r_aload_n (pc := 0) X 0 dX5_takeInto_0 rfl rfl ?_
  refine fg_X5_7 (pc := 1) X hT.1 dX5_takeInto_1 ?_
  refine r_if_gt (pc := 4) (tgt := 9) X dX5_takeInto_4 (by decide) (fun hc => ?_) (fun hc => ?_)
  · replace h := h.1 hc
    refine r_aload_n (pc := 9) X 0 dX5_takeInto_9 rfl rfl ?_
    refine r_dup (pc := 10) X dX5_takeInto_10 rfl ?_
    refine fg_X5_7 (pc := 11) X hT.1 dX5_takeInto_11 ?_
    refine r_iconst (pc := 14) (v := (1 : Int32)) X dX5_takeInto_14 (by decide) ?_
    refine r_isub (pc := 15) X dX5_takeInto_15 ?_
    refine fp_X5_7 (pc := 16) X hT.1 dX5_takeInto_16 (fun F1 e1 => ?_)
    replace h := h F1 e1
    refine r_aload_n (pc := 19) X 1 dX5_takeInto_19 rfl rfl ?_
    refine r_aload_n (pc := 20) X 0 dX5_takeInto_20 rfl rfl ?_
    refine fg_X5_21 (pc := 21) X hT.1 dX5_takeInto_21 ?_
    refine r_aload_n (pc := 24) X 0 dX5_takeInto_24 rfl rfl ?_
    refine fg_X5_7 (pc := 25) X hT.1 dX5_takeInto_25 ?_
    refine r_aald (pc := 28) X hT.2.1 h.1 dX5_takeInto_28 ?_
    have hd1 := h.2.1
    replace h := h.2.2
    refine r_callVV (pc := 29) (As := [.ref (ad (F1 (s + 1) (F1 s 1).toNatClampNeg).toNatClampNeg)]) (st := []) X hA (c_X2_copyFrom hr1 (hT.2.2 _ hd1) h) g_X5_35 cl_X2 hr1.1 hd_X2_copyFrom rfl rfl rfl ⟨Nat.le_of_ble_eq_true rfl, Nat.le_of_ble_eq_true rfl⟩ rfl (Nat.le_of_ble_eq_true rfl) dX5_takeInto_29 (fun F2 h => ?_)
    refine r_iconst (pc := 32) (v := (1 : Int32)) X dX5_takeInto_32 (by decide) ?_
    exact r_zret (pc := 33) X hr dX5_takeInto_33 nb1 h
  · replace h := h.2 hc
    refine r_iconst (pc := 7) (v := (0 : Int32)) X dX5_takeInto_7 (by decide) ?_
    exact r_zret (pc := 8) X hr dX5_takeInto_8 nb0 h
end
section
theorem dX4_begin_0 : decode cX4_begin 0 = .ok (.aload_n 0, 1) := by decide +kernel
theorem dX4_begin_1 : decode cX4_begin 1 = .ok (.iconst (-1), 1) := by decide +kernel
theorem dX4_begin_2 : decode cX4_begin 2 = .ok (.putfield 19, 3) := by decide +kernel
theorem dX4_begin_5 : decode cX4_begin 5 = .ok (.return_, 1) := by decide +kernel
theorem hd_X4_begin : yX4_begin.cls = RX4 ∧ yX4_begin.cls ≠ "java/lang/invoke/MethodHandle" ∧ yX4_begin.cls ≠ "java/lang/invoke/VarHandle" ∧ (parseMethodDescriptor yX4_begin.desc).map (fun d => d.parameters.length) = some 0 := by decide +kernel
abbrev rm_X4_begin : Room := { frames := 0, cells := 0, slots := 0, locals := 0 }
def wp_X4_begin (K : HF → Prop) (F : HF) : Prop := ∀ F1 : HF, F1 = hup F 79 4 (-1 : Int32) → (K F1)
set_option maxRecDepth 100000 in
set_option maxHeartbeats 4000000 in
theorem c_X4_begin {l : Launch} {D : va_G} {dA : Nat → ClassId} {ad : Nat → Nat} {R : List Nat} {F : HF} {K : HF → Prop} (hT : Se R) (h : wp_X4_begin K F ) : MV l yX4_begin cX4_begin 1 rm_X4_begin D dA ad R F [.ref (ad 79)] K := by
  refine MV.of (own := RX4) (by decide) rfl (Nat.le_of_ble_eq_true rfl) ?_
  intro p e s m args below meth c A hA X hr
  unfold wp_X4_begin at h
  show J p l e rm_X4_begin s m args below meth c 1 D dA ad R A (QV D dA ad R A below args s K) F 0 [(0, .ref (ad 79))] []
  refine r_aload_n (pc := 0) X 0 dX4_begin_0 rfl rfl ?_
  refine r_iconst (pc := 1) (v := (-1 : Int32)) X dX4_begin_1 (by decide) ?_
  refine fp_X4_19 (pc := 2) X hT.1 dX4_begin_2 (fun F1 e1 => ?_)
  replace h := h F1 e1
  exact r_vret (pc := 5) X hr dX4_begin_5 h
theorem dX4_noteFound_0 : decode cX4_noteFound 0 = .ok (.aload_n 0, 1) := by decide +kernel
theorem dX4_noteFound_1 : decode cX4_noteFound 1 = .ok (.aload_n 0, 1) := by decide +kernel
theorem dX4_noteFound_2 : decode cX4_noteFound 2 = .ok (.getfield 31, 3) := by decide +kernel
theorem dX4_noteFound_5 : decode cX4_noteFound 5 = .ok (.invokevirtual 80, 3) := by decide +kernel
theorem dX4_noteFound_8 : decode cX4_noteFound 8 = .ok (.putfield 15, 3) := by decide +kernel
theorem dX4_noteFound_11 : decode cX4_noteFound 11 = .ok (.iconst 0, 1) := by decide +kernel
theorem dX4_noteFound_12 : decode cX4_noteFound 12 = .ok (.istore_n 1, 1) := by decide +kernel
theorem dX4_noteFound_13 : decode cX4_noteFound 13 = .ok (.iload_n 1, 1) := by decide +kernel
theorem dX4_noteFound_14 : decode cX4_noteFound 14 = .ok (.aload_n 0, 1) := by decide +kernel
theorem dX4_noteFound_15 : decode cX4_noteFound 15 = .ok (.getfield 15, 3) := by decide +kernel
theorem dX4_noteFound_18 : decode cX4_noteFound 18 = .ok (.if_icmp .ge 32, 3) := by decide +kernel
theorem dX4_noteFound_21 : decode cX4_noteFound 21 = .ok (.iload_n 1, 1) := by decide +kernel
theorem dX4_noteFound_22 : decode cX4_noteFound 22 = .ok (.aload_n 0, 1) := by decide +kernel
theorem dX4_noteFound_23 : decode cX4_noteFound 23 = .ok (.getfield 9, 3) := by decide +kernel
theorem dX4_noteFound_26 : decode cX4_noteFound 26 = .ok (.arraylength, 1) := by decide +kernel
theorem dX4_noteFound_27 : decode cX4_noteFound 27 = .ok (.if_icmp .ge 23, 3) := by decide +kernel
theorem dX4_noteFound_30 : decode cX4_noteFound 30 = .ok (.aload_n 0, 1) := by decide +kernel
theorem dX4_noteFound_31 : decode cX4_noteFound 31 = .ok (.getfield 9, 3) := by decide +kernel
theorem dX4_noteFound_34 : decode cX4_noteFound 34 = .ok (.iload_n 1, 1) := by decide +kernel
theorem dX4_noteFound_35 : decode cX4_noteFound 35 = .ok (.aload_n 0, 1) := by decide +kernel
theorem dX4_noteFound_36 : decode cX4_noteFound 36 = .ok (.getfield 31, 3) := by decide +kernel
theorem dX4_noteFound_39 : decode cX4_noteFound 39 = .ok (.iload_n 1, 1) := by decide +kernel
theorem dX4_noteFound_40 : decode cX4_noteFound 40 = .ok (.invokevirtual 83, 3) := by decide +kernel
theorem dX4_noteFound_43 : decode cX4_noteFound 43 = .ok (.iastore, 1) := by decide +kernel
theorem dX4_noteFound_44 : decode cX4_noteFound 44 = .ok (.iinc 1 1, 3) := by decide +kernel
theorem dX4_noteFound_47 : decode cX4_noteFound 47 = .ok (.goto (-34), 3) := by decide +kernel
theorem dX4_noteFound_50 : decode cX4_noteFound 50 = .ok (.return_, 1) := by decide +kernel
theorem hd_X4_noteFound : yX4_noteFound.cls = RX4 ∧ yX4_noteFound.cls ≠ "java/lang/invoke/MethodHandle" ∧ yX4_noteFound.cls ≠ "java/lang/invoke/VarHandle" ∧ (parseMethodDescriptor yX4_noteFound.desc).map (fun d => d.parameters.length) = some 0 := by decide +kernel
abbrev rm_X4_noteFound : Room := { frames := 1, cells := 0, slots := 0, locals := 21 }
def wp_X4_noteFound_13 (K : HF → Prop) : Nat → HF → Int32 → Prop
  | 0 => fun _ _ => False
  | n_ + 1 => fun F v1 => (((F 79 3) ≤ v1) → (K F)) ∧ ((¬ (F 79 3) ≤ v1) → ((((8 : Int32) ≤ v1) → (K F)) ∧ ((¬ (8 : Int32) ≤ v1) → (wp_X0_birdAt (fun x2 F103 => (vp_in v1 8) ∧ (∀ F104 : HF, F104 = hup F103 84 v1.toNatClampNeg x2 → (wp_X4_noteFound_13 K  n_ F104 (v1 + (1))))) F 80 v1))))
set_option maxRecDepth 100000 in
set_option maxHeartbeats 4000000 in
theorem k_X4_noteFound_13 {p : Program} {l : Launch} {e : Env} {s : State} {m : MethodId} {args : Array Value} {below : List Frame} {meth : Method} {c : Code} {D : va_G} {dA : Nat → ClassId} {ad : Nat → Nat} {R : List Nat} {A : Nat → Prop} {K : HF → Prop} (X : Cx p s m args meth c cX4_noteFound 2 RX4 D dA) (hA : ∀ q, s.heap.size ≤ q → A q) (hr : meth.sig.returnType = none) (hT : Se R) : ∀ (n_ : Nat) (F : HF) (v1 : Int32), wp_X4_noteFound_13 K  n_ F v1 → J p l e rm_X4_noteFound s m args below meth c 2 D dA ad R A (QV D dA ad R A below args s K) F 13 [(0, .ref (ad 79)), (1, .int v1)] [] := by
  intro n_
  induction n_ with
  | zero => intro F v1 h; exact h.elim
  | succ n_ ih =>
    intro F v1 h
    unfold wp_X4_noteFound_13 at h
    refine r_iload_n (pc := 13) X 1 dX4_noteFound_13 rfl rfl ?_
    refine r_aload_n (pc := 14) X 0 dX4_noteFound_14 rfl rfl ?_
    refine fg_X4_15 (pc := 15) X hT.1 dX4_noteFound_15 ?_
    refine r_icmp_ge (pc := 18) (tgt := 50) X dX4_noteFound_18 (by decide) (fun hc => ?_) (fun hc => ?_)
    · replace h := h.1 hc
      exact r_vret (pc := 50) X hr dX4_noteFound_50 h
    · replace h := h.2 hc
      refine r_iload_n (pc := 21) X 1 dX4_noteFound_21 rfl rfl ?_
      refine r_aload_n (pc := 22) X 0 dX4_noteFound_22 rfl rfl ?_
      refine fg_X4_9 (pc := 23) X hT.1 dX4_noteFound_23 ?_
      refine r_alen (pc := 26) (v := (8 : Int32)) X (Or.inl hT.2.2) rfl dX4_noteFound_26 ?_
      refine r_icmp_ge (pc := 27) (tgt := 50) X dX4_noteFound_27 (by decide) (fun hc => ?_) (fun hc => ?_)
      · replace h := h.1 hc
        exact r_vret (pc := 50) X hr dX4_noteFound_50 h
      · replace h := h.2 hc
        refine r_aload_n (pc := 30) X 0 dX4_noteFound_30 rfl rfl ?_
        refine fg_X4_9 (pc := 31) X hT.1 dX4_noteFound_31 ?_
        refine r_iload_n (pc := 34) X 1 dX4_noteFound_34 rfl rfl ?_
        refine r_aload_n (pc := 35) X 0 dX4_noteFound_35 rfl rfl ?_
        refine fg_X4_31 (pc := 36) X hT.1 dX4_noteFound_36 ?_
        refine r_iload_n (pc := 39) X 1 dX4_noteFound_39 rfl rfl ?_
        refine r_callIV (pc := 40) (As := [.int v1]) (st := [.int v1, .ref (ad 84)]) X hA (c_X0_birdAt hT.2.1 h) g_X4_83 cl_X0 hT.2.1.1 hd_X0_birdAt rfl rfl rfl ⟨Nat.le_of_ble_eq_true rfl, Nat.le_of_ble_eq_true rfl⟩ rfl (Nat.le_of_ble_eq_true rfl) dX4_noteFound_40 (fun x2 F103 h => ?_)
        refine r_iast (pc := 43) X hT.2.2 h.1 dX4_noteFound_43 (fun F104 e1 => ?_)
        replace h := h.2 F104 e1
        refine r_iinc (pc := 44) (v := (v1 + (1))) X 1 [(1, .int (v1 + (1))), (0, .ref (ad 79))] dX4_noteFound_44 rfl rfl (by decide) rfl ?_
        refine r_goto (pc := 47) (tgt := 13) X dX4_noteFound_47 (by decide) ?_
        refine r_sub [1, 0] rfl ?_
        exact ih _ _ h
def wp_X4_noteFound (K : HF → Prop) (F : HF) : Prop := wp_X0_size (fun x1 F1 => ∀ F2 : HF, F2 = hup F1 79 3 x1 → (∃ n_, wp_X4_noteFound_13 K  n_ F2 (0 : Int32))) F 80
set_option maxRecDepth 100000 in
set_option maxHeartbeats 4000000 in
theorem c_X4_noteFound {l : Launch} {D : va_G} {dA : Nat → ClassId} {ad : Nat → Nat} {R : List Nat} {F : HF} {K : HF → Prop} (hT : Se R) (h : wp_X4_noteFound K F ) : MV l yX4_noteFound cX4_noteFound 2 rm_X4_noteFound D dA ad R F [.ref (ad 79)] K := by
  refine MV.of (own := RX4) (by decide) rfl (Nat.le_of_ble_eq_true rfl) ?_
  intro p e s m args below meth c A hA X hr
  unfold wp_X4_noteFound at h
  show J p l e rm_X4_noteFound s m args below meth c 2 D dA ad R A (QV D dA ad R A below args s K) F 0 [(0, .ref (ad 79))] []
  refine r_aload_n (pc := 0) X 0 dX4_noteFound_0 rfl rfl ?_
  refine r_aload_n (pc := 1) X 0 dX4_noteFound_1 rfl rfl ?_
  refine fg_X4_31 (pc := 2) X hT.1 dX4_noteFound_2 ?_
  refine r_callIV (pc := 5) (As := []) (st := [.ref (ad 79)]) X hA (c_X0_size hT.2.1 h) g_X4_80 cl_X0 hT.2.1.1 hd_X0_size rfl rfl rfl ⟨Nat.le_of_ble_eq_true rfl, Nat.le_of_ble_eq_true rfl⟩ rfl (Nat.le_of_ble_eq_true rfl) dX4_noteFound_5 (fun x1 F1 h => ?_)
  refine fp_X4_15 (pc := 8) X hT.1 dX4_noteFound_8 (fun F2 e1 => ?_)
  replace h := h F2 e1
  refine r_iconst (pc := 11) (v := (0 : Int32)) X dX4_noteFound_11 (by decide) ?_
  refine r_istore_n (pc := 12) X [(1, .int (0 : Int32)), (0, .ref (ad 79))] dX4_noteFound_12 rfl (by decide) rfl ?_
  refine r_sub [1, 0] rfl ?_
  obtain ⟨n1, h⟩ := h
  exact k_X4_noteFound_13 X hA hr hT  n1 _ _ h
theorem dX4_extend_0 : decode cX4_extend 0 = .ok (.iconst 0, 1) := by decide +kernel
theorem dX4_extend_1 : decode cX4_extend 1 = .ok (.istore_n 3, 1) := by decide +kernel
theorem dX4_extend_2 : decode cX4_extend 2 = .ok (.iload_n 3, 1) := by decide +kernel
theorem dX4_extend_3 : decode cX4_extend 3 = .ok (.aload_n 0, 1) := by decide +kernel
theorem dX4_extend_4 : decode cX4_extend 4 = .ok (.getfield 22, 3) := by decide +kernel
theorem dX4_extend_7 : decode cX4_extend 7 = .ok (.invokevirtual 42, 3) := by decide +kernel
theorem dX4_extend_10 : decode cX4_extend 10 = .ok (.if_icmp .ge 135, 3) := by decide +kernel
theorem dX4_extend_13 : decode cX4_extend 13 = .ok (.iload_n 1, 1) := by decide +kernel
theorem dX4_extend_14 : decode cX4_extend 14 = .ok (.iconst 1, 1) := by decide +kernel
theorem dX4_extend_15 : decode cX4_extend 15 = .ok (.iadd, 1) := by decide +kernel
theorem dX4_extend_16 : decode cX4_extend 16 = .ok (.aload_n 0, 1) := by decide +kernel
theorem dX4_extend_17 : decode cX4_extend 17 = .ok (.getfield 15, 3) := by decide +kernel
theorem dX4_extend_20 : decode cX4_extend 20 = .ok (.if_icmp .ge 125, 3) := by decide +kernel
theorem dX4_extend_23 : decode cX4_extend 23 = .ok (.aload_n 0, 1) := by decide +kernel
theorem dX4_extend_24 : decode cX4_extend 24 = .ok (.getfield 31, 3) := by decide +kernel
theorem dX4_extend_27 : decode cX4_extend 27 = .ok (.iload_n 3, 1) := by decide +kernel
theorem dX4_extend_28 : decode cX4_extend 28 = .ok (.invokevirtual 48, 3) := by decide +kernel
theorem dX4_extend_31 : decode cX4_extend 31 = .ok (.ifCond .ne 6, 3) := by decide +kernel
theorem dX4_extend_34 : decode cX4_extend 34 = .ok (.goto 105, 3) := by decide +kernel
theorem dX4_extend_37 : decode cX4_extend 37 = .ok (.aload_n 0, 1) := by decide +kernel
theorem dX4_extend_38 : decode cX4_extend 38 = .ok (.getfield 31, 3) := by decide +kernel
theorem dX4_extend_41 : decode cX4_extend 41 = .ok (.iload_n 3, 1) := by decide +kernel
theorem dX4_extend_42 : decode cX4_extend 42 = .ok (.invokevirtual 52, 3) := by decide +kernel
theorem dX4_extend_45 : decode cX4_extend 45 = .ok (.aload_n 0, 1) := by decide +kernel
theorem dX4_extend_46 : decode cX4_extend 46 = .ok (.getfield 31, 3) := by decide +kernel
theorem dX4_extend_49 : decode cX4_extend 49 = .ok (.invokevirtual 56, 3) := by decide +kernel
theorem dX4_extend_52 : decode cX4_extend 52 = .ok (.aload_n 0, 1) := by decide +kernel
theorem dX4_extend_53 : decode cX4_extend 53 = .ok (.getfield 31, 3) := by decide +kernel
theorem dX4_extend_56 : decode cX4_extend 56 = .ok (.invokevirtual 59, 3) := by decide +kernel
theorem dX4_extend_59 : decode cX4_extend 59 = .ok (.istore 4, 2) := by decide +kernel
theorem dX4_extend_61 : decode cX4_extend 61 = .ok (.aload_n 0, 1) := by decide +kernel
theorem dX4_extend_62 : decode cX4_extend 62 = .ok (.getfield 31, 3) := by decide +kernel
theorem dX4_extend_65 : decode cX4_extend 65 = .ok (.iconst 0, 1) := by decide +kernel
theorem dX4_extend_66 : decode cX4_extend 66 = .ok (.iload 4, 2) := by decide +kernel
theorem dX4_extend_68 : decode cX4_extend 68 = .ok (.iconst 0, 1) := by decide +kernel
theorem dX4_extend_69 : decode cX4_extend 69 = .ok (.iload_n 2, 1) := by decide +kernel
theorem dX4_extend_70 : decode cX4_extend 70 = .ok (.invokevirtual 62, 3) := by decide +kernel
theorem dX4_extend_73 : decode cX4_extend 73 = .ok (.iload 4, 2) := by decide +kernel
theorem dX4_extend_75 : decode cX4_extend 75 = .ok (.if_icmp .ne 7, 3) := by decide +kernel
theorem dX4_extend_78 : decode cX4_extend 78 = .ok (.iconst 1, 1) := by decide +kernel
theorem dX4_extend_79 : decode cX4_extend 79 = .ok (.goto 4, 3) := by decide +kernel
theorem dX4_extend_82 : decode cX4_extend 82 = .ok (.iconst 0, 1) := by decide +kernel
theorem dX4_extend_83 : decode cX4_extend 83 = .ok (.istore 5, 2) := by decide +kernel
theorem dX4_extend_85 : decode cX4_extend 85 = .ok (.aload_n 0, 1) := by decide +kernel
theorem dX4_extend_86 : decode cX4_extend 86 = .ok (.getfield 31, 3) := by decide +kernel
theorem dX4_extend_89 : decode cX4_extend 89 = .ok (.invokevirtual 66, 3) := by decide +kernel
theorem dX4_extend_92 : decode cX4_extend 92 = .ok (.ifCond .eq 15, 3) := by decide +kernel
theorem dX4_extend_95 : decode cX4_extend 95 = .ok (.iload 5, 2) := by decide +kernel
theorem dX4_extend_97 : decode cX4_extend 97 = .ok (.ifCond .eq 35, 3) := by decide +kernel
theorem dX4_extend_100 : decode cX4_extend 100 = .ok (.aload_n 0, 1) := by decide +kernel
theorem dX4_extend_101 : decode cX4_extend 101 = .ok (.invokevirtual 70, 3) := by decide +kernel
theorem dX4_extend_104 : decode cX4_extend 104 = .ok (.goto 28, 3) := by decide +kernel
theorem dX4_extend_107 : decode cX4_extend 107 = .ok (.iload 5, 2) := by decide +kernel
theorem dX4_extend_109 : decode cX4_extend 109 = .ok (.ifCond .ne 15, 3) := by decide +kernel
theorem dX4_extend_112 : decode cX4_extend 112 = .ok (.aload_n 0, 1) := by decide +kernel
theorem dX4_extend_113 : decode cX4_extend 113 = .ok (.getfield 22, 3) := by decide +kernel
theorem dX4_extend_116 : decode cX4_extend 116 = .ok (.iload_n 3, 1) := by decide +kernel
theorem dX4_extend_117 : decode cX4_extend 117 = .ok (.invokevirtual 73, 3) := by decide +kernel
theorem dX4_extend_120 : decode cX4_extend 120 = .ok (.iconst 4, 1) := by decide +kernel
theorem dX4_extend_121 : decode cX4_extend 121 = .ok (.if_icmp .ne 11, 3) := by decide +kernel
theorem dX4_extend_124 : decode cX4_extend 124 = .ok (.aload_n 0, 1) := by decide +kernel
theorem dX4_extend_125 : decode cX4_extend 125 = .ok (.iload_n 1, 1) := by decide +kernel
theorem dX4_extend_126 : decode cX4_extend 126 = .ok (.iconst 1, 1) := by decide +kernel
theorem dX4_extend_127 : decode cX4_extend 127 = .ok (.iadd, 1) := by decide +kernel
theorem dX4_extend_128 : decode cX4_extend 128 = .ok (.iload_n 2, 1) := by decide +kernel
theorem dX4_extend_129 : decode cX4_extend 129 = .ok (.invokevirtual 38, 3) := by decide +kernel
theorem dX4_extend_132 : decode cX4_extend 132 = .ok (.aload_n 0, 1) := by decide +kernel
theorem dX4_extend_133 : decode cX4_extend 133 = .ok (.getfield 31, 3) := by decide +kernel
theorem dX4_extend_136 : decode cX4_extend 136 = .ok (.invokevirtual 77, 3) := by decide +kernel
theorem dX4_extend_139 : decode cX4_extend 139 = .ok (.iinc 3 1, 3) := by decide +kernel
theorem dX4_extend_142 : decode cX4_extend 142 = .ok (.goto (-140), 3) := by decide +kernel
theorem dX4_extend_145 : decode cX4_extend 145 = .ok (.return_, 1) := by decide +kernel
theorem hd_X4_extend : yX4_extend.cls = RX4 ∧ yX4_extend.cls ≠ "java/lang/invoke/MethodHandle" ∧ yX4_extend.cls ≠ "java/lang/invoke/VarHandle" ∧ (parseMethodDescriptor yX4_extend.desc).map (fun d => d.parameters.length) = some 2 := by decide +kernel
def rmE (d : Nat) : Room := { frames := 5 + d, cells := 0, slots := 0, locals := 116 + 25 * d }
theorem rmE_ok {d f g : Nat} (h1 : f ≤ 5) (h2 : g ≤ 116) : f ≤ (rmE d).frames ∧ g ≤ (rmE d).locals := ⟨Nat.le_trans h1 (Nat.le_add_right _ _), Nat.le_trans h2 (Nat.le_add_right _ _)⟩
theorem rmE_s (d : Nat) : (rmE d).frames + 1 ≤ (rmE (d + 1)).frames ∧ 8 + (6 + 11) + (rmE d).locals ≤ (rmE (d + 1)).locals := ⟨by show 5 + d + 1 ≤ 5 + (d + 1); omega, by show 8 + (6 + 11) + (116 + 25 * d) ≤ 116 + 25 * (d + 1); omega⟩
def wp_X4_extend_139 (K : HF → Prop) (EX : (HF → Prop) → HF → Int32 → Int32 → Prop) (L2 : HF → Int32 → Int32 → Int32 → Prop) (F : HF) (v1 : Int32) (v2 : Int32) (v3 : Int32) : Prop := L2 F v1 v2 (v3 + (1))
set_option maxRecDepth 100000 in
set_option maxHeartbeats 4000000 in
theorem k_X4_extend_139 {p : Program} {l : Launch} {e : Env} {s : State} {m : MethodId} {args : Array Value} {below : List Frame} {meth : Method} {c : Code} {D : va_G} {dA : Nat → ClassId} {ad : Nat → Nat} {R : List Nat} {A : Nat → Prop} {K : HF → Prop} {EX : (HF → Prop) → HF → Int32 → Int32 → Prop} {dp : Nat} {L2 : HF → Int32 → Int32 → Int32 → Prop} (X : Cx p s m args meth c cX4_extend 6 RX4 D dA) (hA : ∀ q, s.heap.size ≤ q → A q) (hr : meth.sig.returnType = none) (hT : Se R) (hEX : ∀ (K : HF → Prop) (F : HF) (a1 a2 : Int32), EX K F a1 a2 → MV l yX4_extend cX4_extend 6 (rmE dp) D dA ad R F [.ref (ad 79), .int a1, .int a2] K) (hL2 : ∀ (F : HF) (v1 : Int32) (v2 : Int32) (v3 : Int32), L2 F v1 v2 v3 → J p l e (rmE (dp + 1)) s m args below meth c 6 D dA ad R A (QV D dA ad R A below args s K) F 2 [(0, .ref (ad 79)), (1, .int v1), (2, .int v2), (3, .int v3)] []) : ∀ (F : HF) (v1 : Int32) (v2 : Int32) (v3 : Int32), wp_X4_extend_139 K EX L2  F v1 v2 v3 → J p l e (rmE (dp + 1)) s m args below meth c 6 D dA ad R A (QV D dA ad R A below args s K) F 139 [(0, .ref (ad 79)), (1, .int v1), (2, .int v2), (3, .int v3)] [] := by
  intro F v1 v2 v3 h
  unfold wp_X4_extend_139 at h
  refine r_iinc (pc := 139) (v := (v3 + (1))) X 3 [(3, .int (v3 + (1))), (0, .ref (ad 79)), (1, .int v1), (2, .int v2)] dX4_extend_139 rfl rfl (by decide) rfl ?_
  refine r_goto (pc := 142) (tgt := 2) X dX4_extend_142 (by decide) ?_
  refine r_sub [1, 2, 3, 0] rfl ?_
  exact hL2 _ _ _ _ h
def wp_X4_extend_132 (K : HF → Prop) (EX : (HF → Prop) → HF → Int32 → Int32 → Prop) (L2 : HF → Int32 → Int32 → Int32 → Prop) (F : HF) (v1 : Int32) (v2 : Int32) (v3 : Int32) : Prop := wp_X0_dropLast (fun F409 => wp_X4_extend_139 K EX L2  F409 v1 v2 v3) F 80
set_option maxRecDepth 100000 in
set_option maxHeartbeats 4000000 in
theorem k_X4_extend_132 {p : Program} {l : Launch} {e : Env} {s : State} {m : MethodId} {args : Array Value} {below : List Frame} {meth : Method} {c : Code} {D : va_G} {dA : Nat → ClassId} {ad : Nat → Nat} {R : List Nat} {A : Nat → Prop} {K : HF → Prop} {EX : (HF → Prop) → HF → Int32 → Int32 → Prop} {dp : Nat} {L2 : HF → Int32 → Int32 → Int32 → Prop} (X : Cx p s m args meth c cX4_extend 6 RX4 D dA) (hA : ∀ q, s.heap.size ≤ q → A q) (hr : meth.sig.returnType = none) (hT : Se R) (hEX : ∀ (K : HF → Prop) (F : HF) (a1 a2 : Int32), EX K F a1 a2 → MV l yX4_extend cX4_extend 6 (rmE dp) D dA ad R F [.ref (ad 79), .int a1, .int a2] K) (hL2 : ∀ (F : HF) (v1 : Int32) (v2 : Int32) (v3 : Int32), L2 F v1 v2 v3 → J p l e (rmE (dp + 1)) s m args below meth c 6 D dA ad R A (QV D dA ad R A below args s K) F 2 [(0, .ref (ad 79)), (1, .int v1), (2, .int v2), (3, .int v3)] []) : ∀ (F : HF) (v1 : Int32) (v2 : Int32) (v3 : Int32), wp_X4_extend_132 K EX L2  F v1 v2 v3 → J p l e (rmE (dp + 1)) s m args below meth c 6 D dA ad R A (QV D dA ad R A below args s K) F 132 [(0, .ref (ad 79)), (1, .int v1), (2, .int v2), (3, .int v3)] [] := by
  intro F v1 v2 v3 h
  unfold wp_X4_extend_132 at h
  refine r_aload_n (pc := 132) X 0 dX4_extend_132 rfl rfl ?_
  refine fg_X4_31 (pc := 133) X hT.1 dX4_extend_133 ?_
  refine r_callVV (pc := 136) (As := []) (st := []) X hA (c_X0_dropLast hT.2.1 h) g_X4_77 cl_X0 hT.2.1.1 hd_X0_dropLast rfl rfl rfl (rmE_ok (Nat.le_of_ble_eq_true rfl) (Nat.le_of_ble_eq_true rfl)) rfl (Nat.le_of_ble_eq_true rfl) dX4_extend_136 (fun F409 h => ?_)
  exact k_X4_extend_139 X hA hr hT hEX hL2 _ _ _ _ h
def wp_X4_extend_124 (K : HF → Prop) (EX : (HF → Prop) → HF → Int32 → Int32 → Prop) (L2 : HF → Int32 → Int32 → Int32 → Prop) (F : HF) (v1 : Int32) (v2 : Int32) (v3 : Int32) : Prop := EX (fun F308 => wp_X4_extend_132 K EX L2  F308 v1 v2 v3) F (v1 + (1 : Int32)) v2
set_option maxRecDepth 100000 in
set_option maxHeartbeats 4000000 in
theorem k_X4_extend_124 {p : Program} {l : Launch} {e : Env} {s : State} {m : MethodId} {args : Array Value} {below : List Frame} {meth : Method} {c : Code} {D : va_G} {dA : Nat → ClassId} {ad : Nat → Nat} {R : List Nat} {A : Nat → Prop} {K : HF → Prop} {EX : (HF → Prop) → HF → Int32 → Int32 → Prop} {dp : Nat} {L2 : HF → Int32 → Int32 → Int32 → Prop} (X : Cx p s m args meth c cX4_extend 6 RX4 D dA) (hA : ∀ q, s.heap.size ≤ q → A q) (hr : meth.sig.returnType = none) (hT : Se R) (hEX : ∀ (K : HF → Prop) (F : HF) (a1 a2 : Int32), EX K F a1 a2 → MV l yX4_extend cX4_extend 6 (rmE dp) D dA ad R F [.ref (ad 79), .int a1, .int a2] K) (hL2 : ∀ (F : HF) (v1 : Int32) (v2 : Int32) (v3 : Int32), L2 F v1 v2 v3 → J p l e (rmE (dp + 1)) s m args below meth c 6 D dA ad R A (QV D dA ad R A below args s K) F 2 [(0, .ref (ad 79)), (1, .int v1), (2, .int v2), (3, .int v3)] []) : ∀ (F : HF) (v1 : Int32) (v2 : Int32) (v3 : Int32), wp_X4_extend_124 K EX L2  F v1 v2 v3 → J p l e (rmE (dp + 1)) s m args below meth c 6 D dA ad R A (QV D dA ad R A below args s K) F 124 [(0, .ref (ad 79)), (1, .int v1), (2, .int v2), (3, .int v3)] [] := by
  intro F v1 v2 v3 h
  unfold wp_X4_extend_124 at h
  refine r_aload_n (pc := 124) X 0 dX4_extend_124 rfl rfl ?_
  refine r_iload_n (pc := 125) X 1 dX4_extend_125 rfl rfl ?_
  refine r_iconst (pc := 126) (v := (1 : Int32)) X dX4_extend_126 (by decide) ?_
  refine r_iadd (pc := 127) X dX4_extend_127 ?_
  refine r_iload_n (pc := 128) X 2 dX4_extend_128 rfl rfl ?_
  refine r_callVV (pc := 129) (As := [.int (v1 + (1 : Int32)), .int v2]) (st := []) X hA (hEX _ _ _ _ h) g_X4_38 cl_X4 hT.1 hd_X4_extend rfl rfl rfl (rmE_s dp) rfl (Nat.le_of_ble_eq_true rfl) dX4_extend_129 (fun F308 h => ?_)
  exact k_X4_extend_132 X hA hr hT hEX hL2 _ _ _ _ h
def wp_X4_extend_83 (K : HF → Prop) (EX : (HF → Prop) → HF → Int32 → Int32 → Prop) (L2 : HF → Int32 → Int32 → Int32 → Prop) (F : HF) (v1 : Int32) (v2 : Int32) (v3 : Int32) (s0 : Int32) : Prop := wp_X0_isWhole (fun x5 F207 => ((x5 = 0) → (((¬ s0 = 0) → (wp_X4_extend_124 K EX L2  F207 v1 v2 v3)) ∧ ((s0 = 0) → (wp_X1_kindOf (fun x6 F510 => ((¬ x6 = (4 : Int32)) → (wp_X4_extend_132 K EX L2  F510 v1 v2 v3)) ∧ ((x6 = (4 : Int32)) → (wp_X4_extend_124 K EX L2  F510 v1 v2 v3))) F207 4 v3)))) ∧ ((¬ x5 = 0) → (((s0 = 0) → (wp_X4_extend_132 K EX L2  F207 v1 v2 v3)) ∧ ((¬ s0 = 0) → (wp_X4_noteFound (fun F511 => wp_X4_extend_132 K EX L2  F511 v1 v2 v3) F207 ))))) F 80
set_option maxRecDepth 100000 in
set_option maxHeartbeats 4000000 in
theorem k_X4_extend_83 {p : Program} {l : Launch} {e : Env} {s : State} {m : MethodId} {args : Array Value} {below : List Frame} {meth : Method} {c : Code} {D : va_G} {dA : Nat → ClassId} {ad : Nat → Nat} {R : List Nat} {A : Nat → Prop} {K : HF → Prop} {EX : (HF → Prop) → HF → Int32 → Int32 → Prop} {dp : Nat} {L2 : HF → Int32 → Int32 → Int32 → Prop} (X : Cx p s m args meth c cX4_extend 6 RX4 D dA) (hA : ∀ q, s.heap.size ≤ q → A q) (hr : meth.sig.returnType = none) (hT : Se R) (hEX : ∀ (K : HF → Prop) (F : HF) (a1 a2 : Int32), EX K F a1 a2 → MV l yX4_extend cX4_extend 6 (rmE dp) D dA ad R F [.ref (ad 79), .int a1, .int a2] K) (hL2 : ∀ (F : HF) (v1 : Int32) (v2 : Int32) (v3 : Int32), L2 F v1 v2 v3 → J p l e (rmE (dp + 1)) s m args below meth c 6 D dA ad R A (QV D dA ad R A below args s K) F 2 [(0, .ref (ad 79)), (1, .int v1), (2, .int v2), (3, .int v3)] []) : ∀ (F : HF) (v1 : Int32) (v2 : Int32) (v3 : Int32) (s0 : Int32), wp_X4_extend_83 K EX L2  F v1 v2 v3 s0 → J p l e (rmE (dp + 1)) s m args below meth c 6 D dA ad R A (QV D dA ad R A below args s K) F 83 [(0, .ref (ad 79)), (1, .int v1), (2, .int v2), (3, .int v3)] [.int s0] := by
  intro F v1 v2 v3 s0 h
  unfold wp_X4_extend_83 at h
  refine r_istore (pc := 83) X [(5, .int s0), (0, .ref (ad 79)), (1, .int v1), (2, .int v2), (3, .int v3)] dX4_extend_83 (by decide) rfl ?_
  refine r_aload_n (pc := 85) X 1 dX4_extend_85 rfl rfl ?_
  refine fg_X4_31 (pc := 86) X hT.1 dX4_extend_86 ?_
  refine r_callIV (pc := 89) (As := []) (st := []) X hA (c_X0_isWhole hT.2.1 h) g_X4_66 cl_X0 hT.2.1.1 hd_X0_isWhole rfl rfl rfl (rmE_ok (Nat.le_of_ble_eq_true rfl) (Nat.le_of_ble_eq_true rfl)) rfl (Nat.le_of_ble_eq_true rfl) dX4_extend_89 (fun x5 F207 h => ?_)
  refine r_if_eq (pc := 92) (tgt := 107) X dX4_extend_92 (by decide) (fun hc => ?_) (fun hc => ?_)
  · replace h := h.1 hc
    refine r_iload (pc := 107) X 0 dX4_extend_107 rfl ?_
    refine r_if_ne (pc := 109) (tgt := 124) X dX4_extend_109 (by decide) (fun hc => ?_) (fun hc => ?_)
    · replace h := h.1 hc
      refine r_sub [1, 2, 3, 4] rfl ?_
      exact k_X4_extend_124 X hA hr hT hEX hL2 _ _ _ _ h
    · replace h := h.2 hc
      refine r_aload_n (pc := 112) X 1 dX4_extend_112 rfl rfl ?_
      refine fg_X4_22 (pc := 113) X hT.1 dX4_extend_113 ?_
      refine r_iload_n (pc := 116) X 4 dX4_extend_116 rfl rfl ?_
      refine r_callIV (pc := 117) (As := [.int v3]) (st := []) X hA (c_X1_kindOf hT.2.1.2.2.2.2 h) g_X4_73 cl_X1 hT.2.1.2.2.2.2.1 hd_X1_kindOf rfl rfl rfl (rmE_ok (Nat.le_of_ble_eq_true rfl) (Nat.le_of_ble_eq_true rfl)) rfl (Nat.le_of_ble_eq_true rfl) dX4_extend_117 (fun x6 F510 h => ?_)
      refine r_iconst (pc := 120) (v := (4 : Int32)) X dX4_extend_120 (by decide) ?_
      refine r_icmp_ne (pc := 121) (tgt := 132) X dX4_extend_121 (by decide) (fun hc => ?_) (fun hc => ?_)
      · replace h := h.1 hc
        refine r_sub [1, 2, 3, 4] rfl ?_
        exact k_X4_extend_132 X hA hr hT hEX hL2 _ _ _ _ h
      · replace h := h.2 hc
        refine r_sub [1, 2, 3, 4] rfl ?_
        exact k_X4_extend_124 X hA hr hT hEX hL2 _ _ _ _ h
  · replace h := h.2 hc
    refine r_iload (pc := 95) X 0 dX4_extend_95 rfl ?_
    refine r_if_eq (pc := 97) (tgt := 132) X dX4_extend_97 (by decide) (fun hc => ?_) (fun hc => ?_)
    · replace h := h.1 hc
      refine r_sub [1, 2, 3, 4] rfl ?_
      exact k_X4_extend_132 X hA hr hT hEX hL2 _ _ _ _ h
    · replace h := h.2 hc
      refine r_aload_n (pc := 100) X 1 dX4_extend_100 rfl rfl ?_
      refine r_callVV (pc := 101) (As := []) (st := []) X hA (c_X4_noteFound hT h) g_X4_70 cl_X4 hT.1 hd_X4_noteFound rfl rfl rfl (rmE_ok (Nat.le_of_ble_eq_true rfl) (Nat.le_of_ble_eq_true rfl)) rfl (Nat.le_of_ble_eq_true rfl) dX4_extend_101 (fun F511 h => ?_)
      refine r_goto (pc := 104) (tgt := 132) X dX4_extend_104 (by decide) ?_
      refine r_sub [1, 2, 3, 4] rfl ?_
      exact k_X4_extend_132 X hA hr hT hEX hL2 _ _ _ _ h
def wp_X4_extend_2 (K : HF → Prop) (EX : (HF → Prop) → HF → Int32 → Int32 → Prop) : Nat → HF → Int32 → Int32 → Int32 → Prop
  | 0 => fun _ _ _ _ => False
  | n_ + 1 => fun F v1 v2 v3 => wp_X1_birds (fun x1 F101 => ((x1 ≤ v3) → (K F101)) ∧ ((¬ x1 ≤ v3) → ((((F101 79 3) ≤ (v1 + (1 : Int32))) → (K F101)) ∧ ((¬ (F101 79 3) ≤ (v1 + (1 : Int32))) → (wp_X0_mayJoin (fun x2 F102 => ((¬ x2 = 0) → (wp_X0_append (fun F103 => wp_X0_rest (fun F104 => wp_X0_placesSpanned (fun x3 F105 => wp_X0_walk (fun x4 F106 => ((¬ x4 = x3) → (wp_X4_extend_83 K EX (wp_X4_extend_2 K EX n_)  F106 v1 v2 v3 (0 : Int32))) ∧ ((x4 = x3) → (wp_X4_extend_83 K EX (wp_X4_extend_2 K EX n_)  F106 v1 v2 v3 (1 : Int32)))) F105 80 (0 : Int32) x3 (0 : Int32) v2) F104 80) F103 80) F102 80 v3)) ∧ ((x2 = 0) → (wp_X4_extend_139 K EX (wp_X4_extend_2 K EX n_)  F102 v1 v2 v3))) F101 80 v3))))) F 4
set_option maxRecDepth 100000 in
set_option maxHeartbeats 4000000 in
theorem k_X4_extend_2 {p : Program} {l : Launch} {e : Env} {s : State} {m : MethodId} {args : Array Value} {below : List Frame} {meth : Method} {c : Code} {D : va_G} {dA : Nat → ClassId} {ad : Nat → Nat} {R : List Nat} {A : Nat → Prop} {K : HF → Prop} {EX : (HF → Prop) → HF → Int32 → Int32 → Prop} {dp : Nat} (X : Cx p s m args meth c cX4_extend 6 RX4 D dA) (hA : ∀ q, s.heap.size ≤ q → A q) (hr : meth.sig.returnType = none) (hT : Se R) (hEX : ∀ (K : HF → Prop) (F : HF) (a1 a2 : Int32), EX K F a1 a2 → MV l yX4_extend cX4_extend 6 (rmE dp) D dA ad R F [.ref (ad 79), .int a1, .int a2] K) : ∀ (n_ : Nat) (F : HF) (v1 : Int32) (v2 : Int32) (v3 : Int32), wp_X4_extend_2 K EX  n_ F v1 v2 v3 → J p l e (rmE (dp + 1)) s m args below meth c 6 D dA ad R A (QV D dA ad R A below args s K) F 2 [(0, .ref (ad 79)), (1, .int v1), (2, .int v2), (3, .int v3)] [] := by
  intro n_
  induction n_ with
  | zero => intro F v1 v2 v3 h; exact h.elim
  | succ n_ ih =>
    intro F v1 v2 v3 h
    unfold wp_X4_extend_2 at h
    refine r_iload_n (pc := 2) X 3 dX4_extend_2 rfl rfl ?_
    refine r_aload_n (pc := 3) X 0 dX4_extend_3 rfl rfl ?_
    refine fg_X4_22 (pc := 4) X hT.1 dX4_extend_4 ?_
    refine r_callIV (pc := 7) (As := []) (st := [.int v3]) X hA (c_X1_birds hT.2.1.2.2.2.2 h) g_X4_42 cl_X1 hT.2.1.2.2.2.2.1 hd_X1_birds rfl rfl rfl (rmE_ok (Nat.le_of_ble_eq_true rfl) (Nat.le_of_ble_eq_true rfl)) rfl (Nat.le_of_ble_eq_true rfl) dX4_extend_7 (fun x1 F101 h => ?_)
    refine r_icmp_ge (pc := 10) (tgt := 145) X dX4_extend_10 (by decide) (fun hc => ?_) (fun hc => ?_)
    · replace h := h.1 hc
      exact r_vret (pc := 145) X hr dX4_extend_145 h
    · replace h := h.2 hc
      refine r_iload_n (pc := 13) X 1 dX4_extend_13 rfl rfl ?_
      refine r_iconst (pc := 14) (v := (1 : Int32)) X dX4_extend_14 (by decide) ?_
      refine r_iadd (pc := 15) X dX4_extend_15 ?_
      refine r_aload_n (pc := 16) X 0 dX4_extend_16 rfl rfl ?_
      refine fg_X4_15 (pc := 17) X hT.1 dX4_extend_17 ?_
      refine r_icmp_ge (pc := 20) (tgt := 145) X dX4_extend_20 (by decide) (fun hc => ?_) (fun hc => ?_)
      · replace h := h.1 hc
        exact r_vret (pc := 145) X hr dX4_extend_145 h
      · replace h := h.2 hc
        refine r_aload_n (pc := 23) X 0 dX4_extend_23 rfl rfl ?_
        refine fg_X4_31 (pc := 24) X hT.1 dX4_extend_24 ?_
        refine r_iload_n (pc := 27) X 3 dX4_extend_27 rfl rfl ?_
        refine r_callIV (pc := 28) (As := [.int v3]) (st := []) X hA (c_X0_mayJoin hT.2.1 h) g_X4_48 cl_X0 hT.2.1.1 hd_X0_mayJoin rfl rfl rfl (rmE_ok (Nat.le_of_ble_eq_true rfl) (Nat.le_of_ble_eq_true rfl)) rfl (Nat.le_of_ble_eq_true rfl) dX4_extend_28 (fun x2 F102 h => ?_)
        refine r_if_ne (pc := 31) (tgt := 37) X dX4_extend_31 (by decide) (fun hc => ?_) (fun hc => ?_)
        · replace h := h.1 hc
          refine r_aload_n (pc := 37) X 0 dX4_extend_37 rfl rfl ?_
          refine fg_X4_31 (pc := 38) X hT.1 dX4_extend_38 ?_
          refine r_iload_n (pc := 41) X 3 dX4_extend_41 rfl rfl ?_
          refine r_callVV (pc := 42) (As := [.int v3]) (st := []) X hA (c_X0_append hT.2.1 h) g_X4_52 cl_X0 hT.2.1.1 hd_X0_append rfl rfl rfl (rmE_ok (Nat.le_of_ble_eq_true rfl) (Nat.le_of_ble_eq_true rfl)) rfl (Nat.le_of_ble_eq_true rfl) dX4_extend_42 (fun F103 h => ?_)
          refine r_aload_n (pc := 45) X 0 dX4_extend_45 rfl rfl ?_
          refine fg_X4_31 (pc := 46) X hT.1 dX4_extend_46 ?_
          refine r_callVV (pc := 49) (As := []) (st := []) X hA (c_X0_rest hT.2.1 h) g_X4_56 cl_X0 hT.2.1.1 hd_X0_rest rfl rfl rfl (rmE_ok (Nat.le_of_ble_eq_true rfl) (Nat.le_of_ble_eq_true rfl)) rfl (Nat.le_of_ble_eq_true rfl) dX4_extend_49 (fun F104 h => ?_)
          refine r_aload_n (pc := 52) X 0 dX4_extend_52 rfl rfl ?_
          refine fg_X4_31 (pc := 53) X hT.1 dX4_extend_53 ?_
          refine r_callIV (pc := 56) (As := []) (st := []) X hA (c_X0_placesSpanned hT.2.1 h) g_X4_59 cl_X0 hT.2.1.1 hd_X0_placesSpanned rfl rfl rfl (rmE_ok (Nat.le_of_ble_eq_true rfl) (Nat.le_of_ble_eq_true rfl)) rfl (Nat.le_of_ble_eq_true rfl) dX4_extend_56 (fun x3 F105 h => ?_)
          refine r_istore (pc := 59) X [(4, .int x3), (0, .ref (ad 79)), (1, .int v1), (2, .int v2), (3, .int v3)] dX4_extend_59 (by decide) rfl ?_
          refine r_aload_n (pc := 61) X 1 dX4_extend_61 rfl rfl ?_
          refine fg_X4_31 (pc := 62) X hT.1 dX4_extend_62 ?_
          refine r_iconst (pc := 65) (v := (0 : Int32)) X dX4_extend_65 (by decide) ?_
          refine r_iload (pc := 66) X 0 dX4_extend_66 rfl ?_
          refine r_iconst (pc := 68) (v := (0 : Int32)) X dX4_extend_68 (by decide) ?_
          refine r_iload_n (pc := 69) X 3 dX4_extend_69 rfl rfl ?_
          refine r_callIV (pc := 70) (As := [.int (0 : Int32), .int x3, .int (0 : Int32), .int v2]) (st := []) X hA (c_X0_walk hT.2.1 h) g_X4_62 cl_X0 hT.2.1.1 hd_X0_walk rfl rfl rfl (rmE_ok (Nat.le_of_ble_eq_true rfl) (Nat.le_of_ble_eq_true rfl)) rfl (Nat.le_of_ble_eq_true rfl) dX4_extend_70 (fun x4 F106 h => ?_)
          refine r_iload (pc := 73) X 0 dX4_extend_73 rfl ?_
          refine r_icmp_ne (pc := 75) (tgt := 82) X dX4_extend_75 (by decide) (fun hc => ?_) (fun hc => ?_)
          · replace h := h.1 hc
            refine r_iconst (pc := 82) (v := (0 : Int32)) X dX4_extend_82 (by decide) ?_
            refine r_sub [1, 2, 3, 4] rfl ?_
            exact k_X4_extend_83 X hA hr hT hEX ih _ _ _ _ _ h
          · replace h := h.2 hc
            refine r_iconst (pc := 78) (v := (1 : Int32)) X dX4_extend_78 (by decide) ?_
            refine r_goto (pc := 79) (tgt := 83) X dX4_extend_79 (by decide) ?_
            refine r_sub [1, 2, 3, 4] rfl ?_
            exact k_X4_extend_83 X hA hr hT hEX ih _ _ _ _ _ h
        · replace h := h.2 hc
          refine r_goto (pc := 34) (tgt := 139) X dX4_extend_34 (by decide) ?_
          exact k_X4_extend_139 X hA hr hT hEX ih _ _ _ _ h
def wp_X4_extend : Nat → (HF → Prop) → HF → Int32 → Int32 → Prop
  | 0 => fun _ _ _ _ => False
  | d + 1 => fun K F a1 a2 => ∃ n_, wp_X4_extend_2 K (wp_X4_extend d)  n_ F a1 a2 (0 : Int32)
set_option maxRecDepth 100000 in
set_option maxHeartbeats 4000000 in
theorem c_X4_extend {l : Launch} {D : va_G} {dA : Nat → ClassId} {ad : Nat → Nat} {R : List Nat} (hT : Se R) : ∀ (d : Nat) (K : HF → Prop) (F : HF) (a1 a2 : Int32), wp_X4_extend d K F a1 a2 → MV l yX4_extend cX4_extend 6 (rmE d) D dA ad R F [.ref (ad 79), .int a1, .int a2] K := by
  intro d
  induction d with
  | zero => intro K F a1 a2 h; exact h.elim
  | succ dp hEX =>
    intro K F a1 a2 h
    refine MV.of (own := RX4) (by decide) rfl (Nat.le_of_ble_eq_true rfl) ?_
    intro p e s m args below meth c A hA X hr
    unfold wp_X4_extend at h
    show J p l e (rmE (dp + 1)) s m args below meth c 6 D dA ad R A (QV D dA ad R A below args s K) F 0 [(0, .ref (ad 79)), (1, .int a1), (2, .int a2)] []
    refine r_iconst (pc := 0) (v := (0 : Int32)) X dX4_extend_0 (by decide) ?_
    refine r_istore_n (pc := 1) X [(3, .int (0 : Int32)), (0, .ref (ad 79)), (1, .int a1), (2, .int a2)] dX4_extend_1 rfl (by decide) rfl ?_
    refine r_sub [1, 2, 3, 0] rfl ?_
    obtain ⟨n1, h⟩ := h
    exact k_X4_extend_2 X hA hr hT hEX  n1 _ _ _ _ h
theorem dX4_find_0 : decode cX4_find 0 = .ok (.iload_n 1, 1) := by decide +kernel
theorem dX4_find_1 : decode cX4_find 1 = .ok (.aload_n 0, 1) := by decide +kernel
theorem dX4_find_2 : decode cX4_find 2 = .ok (.getfield 19, 3) := by decide +kernel
theorem dX4_find_5 : decode cX4_find 5 = .ok (.if_icmp .ne 4, 3) := by decide +kernel
theorem dX4_find_8 : decode cX4_find 8 = .ok (.return_, 1) := by decide +kernel
theorem dX4_find_9 : decode cX4_find 9 = .ok (.aload_n 0, 1) := by decide +kernel
theorem dX4_find_10 : decode cX4_find 10 = .ok (.iload_n 1, 1) := by decide +kernel
theorem dX4_find_11 : decode cX4_find 11 = .ok (.putfield 19, 3) := by decide +kernel
theorem dX4_find_14 : decode cX4_find 14 = .ok (.aload_n 0, 1) := by decide +kernel
theorem dX4_find_15 : decode cX4_find 15 = .ok (.bipush 9, 2) := by decide +kernel
theorem dX4_find_17 : decode cX4_find 17 = .ok (.putfield 15, 3) := by decide +kernel
theorem dX4_find_20 : decode cX4_find 20 = .ok (.aload_n 0, 1) := by decide +kernel
theorem dX4_find_21 : decode cX4_find 21 = .ok (.getfield 31, 3) := by decide +kernel
theorem dX4_find_24 : decode cX4_find 24 = .ok (.invokevirtual 35, 3) := by decide +kernel
theorem dX4_find_27 : decode cX4_find 27 = .ok (.aload_n 0, 1) := by decide +kernel
theorem dX4_find_28 : decode cX4_find 28 = .ok (.iconst 0, 1) := by decide +kernel
theorem dX4_find_29 : decode cX4_find 29 = .ok (.iload_n 1, 1) := by decide +kernel
theorem dX4_find_30 : decode cX4_find 30 = .ok (.invokevirtual 38, 3) := by decide +kernel
theorem dX4_find_33 : decode cX4_find 33 = .ok (.return_, 1) := by decide +kernel
theorem hd_X4_find : yX4_find.cls = RX4 ∧ yX4_find.cls ≠ "java/lang/invoke/MethodHandle" ∧ yX4_find.cls ≠ "java/lang/invoke/VarHandle" ∧ (parseMethodDescriptor yX4_find.desc).map (fun d => d.parameters.length) = some 1 := by decide +kernel
abbrev rm_X4_find : Room := { frames := 16, cells := 0, slots := 0, locals := 391 }
def wp_X4_find (K : HF → Prop) (F : HF) (a1 : Int32) : Prop := ((¬ a1 = (F 79 4)) → (∀ F1 : HF, F1 = hup F 79 4 a1 → (∀ F2 : HF, F2 = hup F1 79 3 (9 : Int32) → (wp_X0_clear (fun F3 => wp_X4_extend 10 (fun F4 => K F4) F3 (0 : Int32) a1) F2 80)))) ∧ ((a1 = (F 79 4)) → (K F))
set_option maxRecDepth 100000 in
set_option maxHeartbeats 4000000 in
theorem c_X4_find {l : Launch} {D : va_G} {dA : Nat → ClassId} {ad : Nat → Nat} {R : List Nat} {F : HF} {a1 : Int32} {K : HF → Prop} (hT : Se R) (h : wp_X4_find K F a1) : MV l yX4_find cX4_find 2 rm_X4_find D dA ad R F [.ref (ad 79), .int a1] K := by
  refine MV.of (own := RX4) (by decide) rfl (Nat.le_of_ble_eq_true rfl) ?_
  intro p e s m args below meth c A hA X hr
  unfold wp_X4_find at h
  show J p l e rm_X4_find s m args below meth c 2 D dA ad R A (QV D dA ad R A below args s K) F 0 [(0, .ref (ad 79)), (1, .int a1)] []
  refine r_iload_n (pc := 0) X 1 dX4_find_0 rfl rfl ?_
  refine r_aload_n (pc := 1) X 0 dX4_find_1 rfl rfl ?_
  refine fg_X4_19 (pc := 2) X hT.1 dX4_find_2 ?_
  refine r_icmp_ne (pc := 5) (tgt := 9) X dX4_find_5 (by decide) (fun hc => ?_) (fun hc => ?_)
  · replace h := h.1 hc
    refine r_aload_n (pc := 9) X 0 dX4_find_9 rfl rfl ?_
    refine r_iload_n (pc := 10) X 1 dX4_find_10 rfl rfl ?_
    refine fp_X4_19 (pc := 11) X hT.1 dX4_find_11 (fun F1 e1 => ?_)
    replace h := h F1 e1
    refine r_aload_n (pc := 14) X 0 dX4_find_14 rfl rfl ?_
    refine r_bipush (pc := 15) (v := (9 : Int32)) X dX4_find_15 (by decide) ?_
    refine fp_X4_15 (pc := 17) X hT.1 dX4_find_17 (fun F2 e1 => ?_)
    replace h := h F2 e1
    refine r_aload_n (pc := 20) X 0 dX4_find_20 rfl rfl ?_
    refine fg_X4_31 (pc := 21) X hT.1 dX4_find_21 ?_
    refine r_callVV (pc := 24) (As := []) (st := []) X hA (c_X0_clear hT.2.1 h) g_X4_35 cl_X0 hT.2.1.1 hd_X0_clear rfl rfl rfl ⟨Nat.le_of_ble_eq_true rfl, Nat.le_of_ble_eq_true rfl⟩ rfl (Nat.le_of_ble_eq_true rfl) dX4_find_24 (fun F3 h => ?_)
    refine r_aload_n (pc := 27) X 0 dX4_find_27 rfl rfl ?_
    refine r_iconst (pc := 28) (v := (0 : Int32)) X dX4_find_28 (by decide) ?_
    refine r_iload_n (pc := 29) X 1 dX4_find_29 rfl rfl ?_
    refine r_callVV (pc := 30) (As := [.int (0 : Int32), .int a1]) (st := []) X hA (c_X4_extend hT 10 _ _ _ _ h) g_X4_38 cl_X4 hT.1 hd_X4_extend rfl rfl rfl ⟨Nat.le_of_ble_eq_true rfl, Nat.le_of_ble_eq_true rfl⟩ rfl (Nat.le_of_ble_eq_true rfl) dX4_find_30 (fun F4 h => ?_)
    exact r_vret (pc := 33) X hr dX4_find_33 h
  · replace h := h.2 hc
    exact r_vret (pc := 8) X hr dX4_find_8 h
theorem dX4_foundSize_0 : decode cX4_foundSize 0 = .ok (.aload_n 0, 1) := by decide +kernel
theorem dX4_foundSize_1 : decode cX4_foundSize 1 = .ok (.getfield 15, 3) := by decide +kernel
theorem dX4_foundSize_4 : decode cX4_foundSize 4 = .ok (.bipush 9, 2) := by decide +kernel
theorem dX4_foundSize_6 : decode cX4_foundSize 6 = .ok (.if_icmp .ne 8, 3) := by decide +kernel
theorem dX4_foundSize_9 : decode cX4_foundSize 9 = .ok (.bipush (-4), 2) := by decide +kernel
theorem dX4_foundSize_11 : decode cX4_foundSize 11 = .ok (.goto 7, 3) := by decide +kernel
theorem dX4_foundSize_14 : decode cX4_foundSize 14 = .ok (.aload_n 0, 1) := by decide +kernel
theorem dX4_foundSize_15 : decode cX4_foundSize 15 = .ok (.getfield 15, 3) := by decide +kernel
theorem dX4_foundSize_18 : decode cX4_foundSize 18 = .ok (.ireturn, 1) := by decide +kernel
theorem hd_X4_foundSize : yX4_foundSize.cls = RX4 ∧ yX4_foundSize.cls ≠ "java/lang/invoke/MethodHandle" ∧ yX4_foundSize.cls ≠ "java/lang/invoke/VarHandle" ∧ (parseMethodDescriptor yX4_foundSize.desc).map (fun d => d.parameters.length) = some 0 := by decide +kernel
abbrev rm_X4_foundSize : Room := { frames := 0, cells := 0, slots := 0, locals := 0 }
def wp_X4_foundSize (K : Int32 → HF → Prop) (F : HF) : Prop := ((¬ (F 79 3) = (9 : Int32)) → (K (F 79 3) F)) ∧ (((F 79 3) = (9 : Int32)) → (K (-4 : Int32) F))
set_option maxRecDepth 100000 in
set_option maxHeartbeats 4000000 in
theorem c_X4_foundSize {l : Launch} {D : va_G} {dA : Nat → ClassId} {ad : Nat → Nat} {R : List Nat} {F : HF} {K : Int32 → HF → Prop} (hT : Se R) (h : wp_X4_foundSize K F ) : MI l yX4_foundSize cX4_foundSize 1 .int rm_X4_foundSize D dA ad R F [.ref (ad 79)] K := by
  refine MI.of (own := RX4) (by decide) rfl (Nat.le_of_ble_eq_true rfl) ?_
  intro p e s m args below meth c A hA X hr
  unfold wp_X4_foundSize at h
  show J p l e rm_X4_foundSize s m args below meth c 1 D dA ad R A (QI D dA ad R A below args s K) F 0 [(0, .ref (ad 79))] []
  refine r_aload_n (pc := 0) X 0 dX4_foundSize_0 rfl rfl ?_
  refine fg_X4_15 (pc := 1) X hT.1 dX4_foundSize_1 ?_
  refine r_bipush (pc := 4) (v := (9 : Int32)) X dX4_foundSize_4 (by decide) ?_
  refine r_icmp_ne (pc := 6) (tgt := 14) X dX4_foundSize_6 (by decide) (fun hc => ?_) (fun hc => ?_)
  · replace h := h.1 hc
    refine r_aload_n (pc := 14) X 0 dX4_foundSize_14 rfl rfl ?_
    refine fg_X4_15 (pc := 15) X hT.1 dX4_foundSize_15 ?_
    exact r_iret (pc := 18) X hr dX4_foundSize_18 h
  · replace h := h.2 hc
    refine r_bipush (pc := 9) (v := (-4 : Int32)) X dX4_foundSize_9 (by decide) ?_
    refine r_goto (pc := 11) (tgt := 18) X dX4_foundSize_11 (by decide) ?_
    exact r_iret (pc := 18) X hr dX4_foundSize_18 h
theorem dX4_foundAt_0 : decode cX4_foundAt 0 = .ok (.aload_n 0, 1) := by decide +kernel
theorem dX4_foundAt_1 : decode cX4_foundAt 1 = .ok (.getfield 15, 3) := by decide +kernel
theorem dX4_foundAt_4 : decode cX4_foundAt 4 = .ok (.bipush 9, 2) := by decide +kernel
theorem dX4_foundAt_6 : decode cX4_foundAt 6 = .ok (.if_icmp .eq 15, 3) := by decide +kernel
theorem dX4_foundAt_9 : decode cX4_foundAt 9 = .ok (.iload_n 1, 1) := by decide +kernel
theorem dX4_foundAt_10 : decode cX4_foundAt 10 = .ok (.ifCond .lt 11, 3) := by decide +kernel
theorem dX4_foundAt_13 : decode cX4_foundAt 13 = .ok (.iload_n 1, 1) := by decide +kernel
theorem dX4_foundAt_14 : decode cX4_foundAt 14 = .ok (.aload_n 0, 1) := by decide +kernel
theorem dX4_foundAt_15 : decode cX4_foundAt 15 = .ok (.getfield 15, 3) := by decide +kernel
theorem dX4_foundAt_18 : decode cX4_foundAt 18 = .ok (.if_icmp .lt 8, 3) := by decide +kernel
theorem dX4_foundAt_21 : decode cX4_foundAt 21 = .ok (.bipush (-4), 2) := by decide +kernel
theorem dX4_foundAt_23 : decode cX4_foundAt 23 = .ok (.goto 9, 3) := by decide +kernel
theorem dX4_foundAt_26 : decode cX4_foundAt 26 = .ok (.aload_n 0, 1) := by decide +kernel
theorem dX4_foundAt_27 : decode cX4_foundAt 27 = .ok (.getfield 9, 3) := by decide +kernel
theorem dX4_foundAt_30 : decode cX4_foundAt 30 = .ok (.iload_n 1, 1) := by decide +kernel
theorem dX4_foundAt_31 : decode cX4_foundAt 31 = .ok (.iaload, 1) := by decide +kernel
theorem dX4_foundAt_32 : decode cX4_foundAt 32 = .ok (.ireturn, 1) := by decide +kernel
theorem hd_X4_foundAt : yX4_foundAt.cls = RX4 ∧ yX4_foundAt.cls ≠ "java/lang/invoke/MethodHandle" ∧ yX4_foundAt.cls ≠ "java/lang/invoke/VarHandle" ∧ (parseMethodDescriptor yX4_foundAt.desc).map (fun d => d.parameters.length) = some 1 := by decide +kernel
abbrev rm_X4_foundAt : Room := { frames := 0, cells := 0, slots := 0, locals := 0 }
def wp_X4_foundAt (K : Int32 → HF → Prop) (F : HF) (a1 : Int32) : Prop := (((F 79 3) = (9 : Int32)) → (K (-4 : Int32) F)) ∧ ((¬ (F 79 3) = (9 : Int32)) → (((a1 < 0) → (K (-4 : Int32) F)) ∧ ((¬ a1 < 0) → (((a1 < (F 79 3)) → ((vp_in a1 8) ∧ (K (F 84 a1.toNatClampNeg) F))) ∧ ((¬ a1 < (F 79 3)) → (K (-4 : Int32) F))))))
set_option maxRecDepth 100000 in
set_option maxHeartbeats 4000000 in
theorem c_X4_foundAt {l : Launch} {D : va_G} {dA : Nat → ClassId} {ad : Nat → Nat} {R : List Nat} {F : HF} {a1 : Int32} {K : Int32 → HF → Prop} (hT : Se R) (h : wp_X4_foundAt K F a1) : MI l yX4_foundAt cX4_foundAt 2 .int rm_X4_foundAt D dA ad R F [.ref (ad 79), .int a1] K := by
  refine MI.of (own := RX4) (by decide) rfl (Nat.le_of_ble_eq_true rfl) ?_
  intro p e s m args below meth c A hA X hr
  unfold wp_X4_foundAt at h
  show J p l e rm_X4_foundAt s m args below meth c 2 D dA ad R A (QI D dA ad R A below args s K) F 0 [(0, .ref (ad 79)), (1, .int a1)] []
  refine r_aload_n (pc := 0) X 0 dX4_foundAt_0 rfl rfl ?_
  refine fg_X4_15 (pc := 1) X hT.1 dX4_foundAt_1 ?_
  refine r_bipush (pc := 4) (v := (9 : Int32)) X dX4_foundAt_4 (by decide) ?_
  refine r_icmp_eq (pc := 6) (tgt := 21) X dX4_foundAt_6 (by decide) (fun hc => ?_) (fun hc => ?_)
  · replace h := h.1 hc
    refine r_bipush (pc := 21) (v := (-4 : Int32)) X dX4_foundAt_21 (by decide) ?_
    refine r_goto (pc := 23) (tgt := 32) X dX4_foundAt_23 (by decide) ?_
    exact r_iret (pc := 32) X hr dX4_foundAt_32 h
  · replace h := h.2 hc
    refine r_iload_n (pc := 9) X 1 dX4_foundAt_9 rfl rfl ?_
    refine r_if_lt (pc := 10) (tgt := 21) X dX4_foundAt_10 (by decide) (fun hc => ?_) (fun hc => ?_)
    · replace h := h.1 hc
      refine r_bipush (pc := 21) (v := (-4 : Int32)) X dX4_foundAt_21 (by decide) ?_
      refine r_goto (pc := 23) (tgt := 32) X dX4_foundAt_23 (by decide) ?_
      exact r_iret (pc := 32) X hr dX4_foundAt_32 h
    · replace h := h.2 hc
      refine r_iload_n (pc := 13) X 1 dX4_foundAt_13 rfl rfl ?_
      refine r_aload_n (pc := 14) X 0 dX4_foundAt_14 rfl rfl ?_
      refine fg_X4_15 (pc := 15) X hT.1 dX4_foundAt_15 ?_
      refine r_icmp_lt (pc := 18) (tgt := 26) X dX4_foundAt_18 (by decide) (fun hc => ?_) (fun hc => ?_)
      · replace h := h.1 hc
        refine r_aload_n (pc := 26) X 0 dX4_foundAt_26 rfl rfl ?_
        refine fg_X4_9 (pc := 27) X hT.1 dX4_foundAt_27 ?_
        refine r_iload_n (pc := 30) X 1 dX4_foundAt_30 rfl rfl ?_
        refine r_iald (pc := 31) X hT.2.2 h.1 dX4_foundAt_31 ?_
        replace h := h.2
        exact r_iret (pc := 32) X hr dX4_foundAt_32 h
      · replace h := h.2 hc
        refine r_bipush (pc := 21) (v := (-4 : Int32)) X dX4_foundAt_21 (by decide) ?_
        refine r_goto (pc := 23) (tgt := 32) X dX4_foundAt_23 (by decide) ?_
        exact r_iret (pc := 32) X hr dX4_foundAt_32 h
end
