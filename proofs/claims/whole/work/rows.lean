section
-- ===== PART A: goes FIRST, ahead of the names: the tables' words, and 'selects' of the private methods out of them =====
/-- a private method of a class that the tables say can be made, by its rows of tables_1 -/
def lw_okq (q : MethodName × Nat) : Prop := (q.1.cls ≠ "java/lang/invoke/MethodHandle" ∧ q.1.cls ≠ "java/lang/invoke/VarHandle") ∧ Cond.instantiable q.1.cls q.2 ∈ tables_1 ∧ Cond.privateMethod q.1 ∈ tables_1 ∧ Cond.instanceMethod q.1 ∈ tables_1
theorem lw_p0 : lw_okq (⟨"BehaviorRunner$Parser", "readNode", "(LBehaviorRunner$Node;I)Z"⟩, 3) := ⟨⟨by decide +kernel, by decide +kernel⟩, List.mem_of_getElem? (i := 384) (by decide +kernel), List.mem_of_getElem? (i := 404) (by decide +kernel), List.mem_of_getElem? (i := 405) (by decide +kernel)⟩
theorem lw_p1 : lw_okq (⟨"BehaviorRunner$Parser", "placeIn", "(Ljava/lang/String;)I"⟩, 3) := ⟨⟨by decide +kernel, by decide +kernel⟩, List.mem_of_getElem? (i := 384) (by decide +kernel), List.mem_of_getElem? (i := 409) (by decide +kernel), List.mem_of_getElem? (i := 410) (by decide +kernel)⟩
theorem lw_p2 : lw_okq (⟨"BehaviorRunner$Parser", "readRest", "(LBehaviorRunner$Node;I)Z"⟩, 3) := ⟨⟨by decide +kernel, by decide +kernel⟩, List.mem_of_getElem? (i := 384) (by decide +kernel), List.mem_of_getElem? (i := 527) (by decide +kernel), List.mem_of_getElem? (i := 528) (by decide +kernel)⟩
theorem lw_p3 : lw_okq (⟨"BehaviorRunner$Parser", "readNumber", "(LBehaviorRunner$Node;II)Z"⟩, 3) := ⟨⟨by decide +kernel, by decide +kernel⟩, List.mem_of_getElem? (i := 384) (by decide +kernel), List.mem_of_getElem? (i := 531) (by decide +kernel), List.mem_of_getElem? (i := 532) (by decide +kernel)⟩
theorem lw_p4 : lw_okq (⟨"BehaviorRunner$Parser", "readDigit", "(II)I"⟩, 3) := ⟨⟨by decide +kernel, by decide +kernel⟩, List.mem_of_getElem? (i := 384) (by decide +kernel), List.mem_of_getElem? (i := 535) (by decide +kernel), List.mem_of_getElem? (i := 536) (by decide +kernel)⟩
theorem lw_p5 : lw_okq (⟨"BehaviorRunner$Parser", "readEffects", "(LBehaviorRunner$Node;)Z"⟩, 3) := ⟨⟨by decide +kernel, by decide +kernel⟩, List.mem_of_getElem? (i := 384) (by decide +kernel), List.mem_of_getElem? (i := 539) (by decide +kernel), List.mem_of_getElem? (i := 540) (by decide +kernel)⟩
theorem lw_p6 : lw_okq (⟨"BehaviorRunner$Parser", "readClause", "(LBehaviorRunner$Node;LBehaviorRunner$Clause;Ljava/lang/String;)Z"⟩, 3) := ⟨⟨by decide +kernel, by decide +kernel⟩, List.mem_of_getElem? (i := 384) (by decide +kernel), List.mem_of_getElem? (i := 544) (by decide +kernel), List.mem_of_getElem? (i := 545) (by decide +kernel)⟩
theorem lw_p7 : lw_okq (⟨"BehaviorRunner$Parser", "skip", "(C)Z"⟩, 3) := ⟨⟨by decide +kernel, by decide +kernel⟩, List.mem_of_getElem? (i := 384) (by decide +kernel), List.mem_of_getElem? (i := 573) (by decide +kernel), List.mem_of_getElem? (i := 574) (by decide +kernel)⟩
theorem lw_p8 : lw_okq (⟨"BehaviorRunner$Parser", "readList", "(LBehaviorRunner$Node;I)Z"⟩, 3) := ⟨⟨by decide +kernel, by decide +kernel⟩, List.mem_of_getElem? (i := 384) (by decide +kernel), List.mem_of_getElem? (i := 578) (by decide +kernel), List.mem_of_getElem? (i := 579) (by decide +kernel)⟩
theorem lw_p9 : lw_okq (⟨"BehaviorRunner$Walker", "beginVisit", "(LBehaviorRunner$Node;)I"⟩, 2) := ⟨⟨by decide +kernel, by decide +kernel⟩, List.mem_of_getElem? (i := 46) (by decide +kernel), List.mem_of_getElem? (i := 617) (by decide +kernel), List.mem_of_getElem? (i := 618) (by decide +kernel)⟩
theorem lw_p10 : lw_okq (⟨"BehaviorRunner$Walker", "beginRun", "(LBehaviorRunner$Node;)V"⟩, 2) := ⟨⟨by decide +kernel, by decide +kernel⟩, List.mem_of_getElem? (i := 46) (by decide +kernel), List.mem_of_getElem? (i := 621) (by decide +kernel), List.mem_of_getElem? (i := 622) (by decide +kernel)⟩
theorem lw_p11 : lw_okq (⟨"BehaviorRunner$Walker", "act", "(LBehaviorRunner$Node;I)I"⟩, 2) := ⟨⟨by decide +kernel, by decide +kernel⟩, List.mem_of_getElem? (i := 46) (by decide +kernel), List.mem_of_getElem? (i := 625) (by decide +kernel), List.mem_of_getElem? (i := 626) (by decide +kernel)⟩
theorem lw_p12 : lw_okq (⟨"BehaviorRunner$Walker", "goDown", "(LBehaviorRunner$Node;)I"⟩, 2) := ⟨⟨by decide +kernel, by decide +kernel⟩, List.mem_of_getElem? (i := 46) (by decide +kernel), List.mem_of_getElem? (i := 641) (by decide +kernel), List.mem_of_getElem? (i := 642) (by decide +kernel)⟩
theorem lw_p13 : lw_okq (⟨"BehaviorRunner$Walker", "goOnInParallel", "(LBehaviorRunner$Node;LBehaviorRunner$Node;)I"⟩, 2) := ⟨⟨by decide +kernel, by decide +kernel⟩, List.mem_of_getElem? (i := 46) (by decide +kernel), List.mem_of_getElem? (i := 645) (by decide +kernel), List.mem_of_getElem? (i := 646) (by decide +kernel)⟩
theorem lw_p14 : lw_okq (⟨"BehaviorRunner$Walker", "endRun", "(LBehaviorRunner$Node;I)V"⟩, 2) := ⟨⟨by decide +kernel, by decide +kernel⟩, List.mem_of_getElem? (i := 46) (by decide +kernel), List.mem_of_getElem? (i := 653) (by decide +kernel), List.mem_of_getElem? (i := 654) (by decide +kernel)⟩
theorem lw_p15 : lw_okq (⟨"BehaviorRunner$Walker", "goDownIf", "(ZLBehaviorRunner$Node;)I"⟩, 2) := ⟨⟨by decide +kernel, by decide +kernel⟩, List.mem_of_getElem? (i := 46) (by decide +kernel), List.mem_of_getElem? (i := 664) (by decide +kernel), List.mem_of_getElem? (i := 665) (by decide +kernel)⟩
def lw_privs_1 : List (MethodName × Nat) := [(⟨"BehaviorRunner$Parser", "readNode", "(LBehaviorRunner$Node;I)Z"⟩, 3), (⟨"BehaviorRunner$Parser", "placeIn", "(Ljava/lang/String;)I"⟩, 3), (⟨"BehaviorRunner$Parser", "readRest", "(LBehaviorRunner$Node;I)Z"⟩, 3), (⟨"BehaviorRunner$Parser", "readNumber", "(LBehaviorRunner$Node;II)Z"⟩, 3), (⟨"BehaviorRunner$Parser", "readDigit", "(II)I"⟩, 3), (⟨"BehaviorRunner$Parser", "readEffects", "(LBehaviorRunner$Node;)Z"⟩, 3), (⟨"BehaviorRunner$Parser", "readClause", "(LBehaviorRunner$Node;LBehaviorRunner$Clause;Ljava/lang/String;)Z"⟩, 3), (⟨"BehaviorRunner$Parser", "skip", "(C)Z"⟩, 3), (⟨"BehaviorRunner$Parser", "readList", "(LBehaviorRunner$Node;I)Z"⟩, 3), (⟨"BehaviorRunner$Walker", "beginVisit", "(LBehaviorRunner$Node;)I"⟩, 2), (⟨"BehaviorRunner$Walker", "beginRun", "(LBehaviorRunner$Node;)V"⟩, 2), (⟨"BehaviorRunner$Walker", "act", "(LBehaviorRunner$Node;I)I"⟩, 2), (⟨"BehaviorRunner$Walker", "goDown", "(LBehaviorRunner$Node;)I"⟩, 2), (⟨"BehaviorRunner$Walker", "goOnInParallel", "(LBehaviorRunner$Node;LBehaviorRunner$Node;)I"⟩, 2), (⟨"BehaviorRunner$Walker", "endRun", "(LBehaviorRunner$Node;I)V"⟩, 2), (⟨"BehaviorRunner$Walker", "goDownIf", "(ZLBehaviorRunner$Node;)I"⟩, 2)]
theorem lw_r1 : ∀ q ∈ lw_privs_1, lw_okq q := List.forall_mem_cons.mpr ⟨lw_p0, List.forall_mem_cons.mpr ⟨lw_p1, List.forall_mem_cons.mpr ⟨lw_p2, List.forall_mem_cons.mpr ⟨lw_p3, List.forall_mem_cons.mpr ⟨lw_p4, List.forall_mem_cons.mpr ⟨lw_p5, List.forall_mem_cons.mpr ⟨lw_p6, List.forall_mem_cons.mpr ⟨lw_p7, List.forall_mem_cons.mpr ⟨lw_p8, List.forall_mem_cons.mpr ⟨lw_p9, List.forall_mem_cons.mpr ⟨lw_p10, List.forall_mem_cons.mpr ⟨lw_p11, List.forall_mem_cons.mpr ⟨lw_p12, List.forall_mem_cons.mpr ⟨lw_p13, List.forall_mem_cons.mpr ⟨lw_p14, List.forall_mem_cons.mpr ⟨lw_p15, fun _ h => absurd h List.not_mem_nil⟩⟩⟩⟩⟩⟩⟩⟩⟩⟩⟩⟩⟩⟩⟩⟩
theorem lw_p16 : lw_okq (⟨"BehaviorRunner$Walker", "endVisit", "(LBehaviorRunner$Node;I)V"⟩, 2) := ⟨⟨by decide +kernel, by decide +kernel⟩, List.mem_of_getElem? (i := 46) (by decide +kernel), List.mem_of_getElem? (i := 668) (by decide +kernel), List.mem_of_getElem? (i := 669) (by decide +kernel)⟩
theorem lw_p17 : lw_okq (⟨"BehaviorRunner$Walker", "goOn", "(LBehaviorRunner$Node;LBehaviorRunner$Node;I)I"⟩, 2) := ⟨⟨by decide +kernel, by decide +kernel⟩, List.mem_of_getElem? (i := 46) (by decide +kernel), List.mem_of_getElem? (i := 672) (by decide +kernel), List.mem_of_getElem? (i := 673) (by decide +kernel)⟩
theorem lw_p18 : lw_okq (⟨"BehaviorRunner$Walker", "goOnInList", "(LBehaviorRunner$Node;LBehaviorRunner$Node;II)I"⟩, 2) := ⟨⟨by decide +kernel, by decide +kernel⟩, List.mem_of_getElem? (i := 46) (by decide +kernel), List.mem_of_getElem? (i := 676) (by decide +kernel), List.mem_of_getElem? (i := 677) (by decide +kernel)⟩
theorem lw_p19 : lw_okq (⟨"BehaviorRunner$Walker", "countResult", "(LBehaviorRunner$Node;II)I"⟩, 2) := ⟨⟨by decide +kernel, by decide +kernel⟩, List.mem_of_getElem? (i := 46) (by decide +kernel), List.mem_of_getElem? (i := 684) (by decide +kernel), List.mem_of_getElem? (i := 685) (by decide +kernel)⟩
theorem lw_p20 : lw_okq (⟨"BehaviorRunner$Ledger", "placeOf", "(I)I"⟩, 11) := ⟨⟨by decide +kernel, by decide +kernel⟩, List.mem_of_getElem? (i := 63) (by decide +kernel), List.mem_of_getElem? (i := 764) (by decide +kernel), List.mem_of_getElem? (i := 765) (by decide +kernel)⟩
theorem lw_p21 : lw_okq (⟨"BehaviorRunner$Writer", "writeHead", "(LBehaviorRunner$Node;)V"⟩, 2) := ⟨⟨by decide +kernel, by decide +kernel⟩, List.mem_of_getElem? (i := 784) (by decide +kernel), List.mem_of_getElem? (i := 803) (by decide +kernel), List.mem_of_getElem? (i := 804) (by decide +kernel)⟩
theorem lw_p22 : lw_okq (⟨"BehaviorRunner$Writer", "hasNumber", "(LBehaviorRunner$Node;)Z"⟩, 2) := ⟨⟨by decide +kernel, by decide +kernel⟩, List.mem_of_getElem? (i := 784) (by decide +kernel), List.mem_of_getElem? (i := 811) (by decide +kernel), List.mem_of_getElem? (i := 812) (by decide +kernel)⟩
theorem lw_p23 : lw_okq (⟨"BehaviorRunner$Writer", "writeNumber", "(I)V"⟩, 2) := ⟨⟨by decide +kernel, by decide +kernel⟩, List.mem_of_getElem? (i := 784) (by decide +kernel), List.mem_of_getElem? (i := 815) (by decide +kernel), List.mem_of_getElem? (i := 816) (by decide +kernel)⟩
theorem lw_p24 : lw_okq (⟨"BehaviorRunner$Writer", "writeClause", "(LBehaviorRunner$Clause;)V"⟩, 2) := ⟨⟨by decide +kernel, by decide +kernel⟩, List.mem_of_getElem? (i := 784) (by decide +kernel), List.mem_of_getElem? (i := 819) (by decide +kernel), List.mem_of_getElem? (i := 820) (by decide +kernel)⟩
theorem lw_p25 : lw_okq (⟨"BehaviorRunner$Writer", "writeBehind", "(LBehaviorRunner$Node;)V"⟩, 2) := ⟨⟨by decide +kernel, by decide +kernel⟩, List.mem_of_getElem? (i := 784) (by decide +kernel), List.mem_of_getElem? (i := 827) (by decide +kernel), List.mem_of_getElem? (i := 828) (by decide +kernel)⟩
theorem lw_p26 : lw_okq (⟨"BehaviorRunnerModel", "begins", "()V"⟩, 39) := ⟨⟨by decide +kernel, by decide +kernel⟩, List.mem_of_getElem? (i := 844) (by decide +kernel), List.mem_of_getElem? (i := 978) (by decide +kernel), List.mem_of_getElem? (i := 979) (by decide +kernel)⟩
theorem lw_p27 : lw_okq (⟨"BehaviorRunnerModel", "here", "()I"⟩, 39) := ⟨⟨by decide +kernel, by decide +kernel⟩, List.mem_of_getElem? (i := 844) (by decide +kernel), List.mem_of_getElem? (i := 982) (by decide +kernel), List.mem_of_getElem? (i := 983) (by decide +kernel)⟩
theorem lw_p28 : lw_okq (⟨"BehaviorRunnerModel", "digit", "(II)I"⟩, 39) := ⟨⟨by decide +kernel, by decide +kernel⟩, List.mem_of_getElem? (i := 844) (by decide +kernel), List.mem_of_getElem? (i := 989) (by decide +kernel), List.mem_of_getElem? (i := 990) (by decide +kernel)⟩
theorem lw_p29 : lw_okq (⟨"BehaviorRunnerModel", "deed", "(IZ)V"⟩, 39) := ⟨⟨by decide +kernel, by decide +kernel⟩, List.mem_of_getElem? (i := 844) (by decide +kernel), List.mem_of_getElem? (i := 993) (by decide +kernel), List.mem_of_getElem? (i := 994) (by decide +kernel)⟩
theorem lw_p30 : lw_okq (⟨"BehaviorRunnerModel", "sign", "(Z)I"⟩, 39) := ⟨⟨by decide +kernel, by decide +kernel⟩, List.mem_of_getElem? (i := 844) (by decide +kernel), List.mem_of_getElem? (i := 997) (by decide +kernel), List.mem_of_getElem? (i := 998) (by decide +kernel)⟩
theorem lw_p31 : lw_okq (⟨"BehaviorRunnerModel", "worth", "()I"⟩, 39) := ⟨⟨by decide +kernel, by decide +kernel⟩, List.mem_of_getElem? (i := 844) (by decide +kernel), List.mem_of_getElem? (i := 1001) (by decide +kernel), List.mem_of_getElem? (i := 1002) (by decide +kernel)⟩
def lw_privs_2 : List (MethodName × Nat) := [(⟨"BehaviorRunner$Walker", "endVisit", "(LBehaviorRunner$Node;I)V"⟩, 2), (⟨"BehaviorRunner$Walker", "goOn", "(LBehaviorRunner$Node;LBehaviorRunner$Node;I)I"⟩, 2), (⟨"BehaviorRunner$Walker", "goOnInList", "(LBehaviorRunner$Node;LBehaviorRunner$Node;II)I"⟩, 2), (⟨"BehaviorRunner$Walker", "countResult", "(LBehaviorRunner$Node;II)I"⟩, 2), (⟨"BehaviorRunner$Ledger", "placeOf", "(I)I"⟩, 11), (⟨"BehaviorRunner$Writer", "writeHead", "(LBehaviorRunner$Node;)V"⟩, 2), (⟨"BehaviorRunner$Writer", "hasNumber", "(LBehaviorRunner$Node;)Z"⟩, 2), (⟨"BehaviorRunner$Writer", "writeNumber", "(I)V"⟩, 2), (⟨"BehaviorRunner$Writer", "writeClause", "(LBehaviorRunner$Clause;)V"⟩, 2), (⟨"BehaviorRunner$Writer", "writeBehind", "(LBehaviorRunner$Node;)V"⟩, 2), (⟨"BehaviorRunnerModel", "begins", "()V"⟩, 39), (⟨"BehaviorRunnerModel", "here", "()I"⟩, 39), (⟨"BehaviorRunnerModel", "digit", "(II)I"⟩, 39), (⟨"BehaviorRunnerModel", "deed", "(IZ)V"⟩, 39), (⟨"BehaviorRunnerModel", "sign", "(Z)I"⟩, 39), (⟨"BehaviorRunnerModel", "worth", "()I"⟩, 39)]
theorem lw_r2 : ∀ q ∈ lw_privs_2, lw_okq q := List.forall_mem_cons.mpr ⟨lw_p16, List.forall_mem_cons.mpr ⟨lw_p17, List.forall_mem_cons.mpr ⟨lw_p18, List.forall_mem_cons.mpr ⟨lw_p19, List.forall_mem_cons.mpr ⟨lw_p20, List.forall_mem_cons.mpr ⟨lw_p21, List.forall_mem_cons.mpr ⟨lw_p22, List.forall_mem_cons.mpr ⟨lw_p23, List.forall_mem_cons.mpr ⟨lw_p24, List.forall_mem_cons.mpr ⟨lw_p25, List.forall_mem_cons.mpr ⟨lw_p26, List.forall_mem_cons.mpr ⟨lw_p27, List.forall_mem_cons.mpr ⟨lw_p28, List.forall_mem_cons.mpr ⟨lw_p29, List.forall_mem_cons.mpr ⟨lw_p30, List.forall_mem_cons.mpr ⟨lw_p31, fun _ h => absurd h List.not_mem_nil⟩⟩⟩⟩⟩⟩⟩⟩⟩⟩⟩⟩⟩⟩⟩⟩
theorem lw_p32 : lw_okq (⟨"BehaviorRunnerModel", "end", "(I)V"⟩, 39) := ⟨⟨by decide +kernel, by decide +kernel⟩, List.mem_of_getElem? (i := 844) (by decide +kernel), List.mem_of_getElem? (i := 1005) (by decide +kernel), List.mem_of_getElem? (i := 1006) (by decide +kernel)⟩
theorem lw_p33 : lw_okq (⟨"BehaviorRunnerModel", "goesUp", "()V"⟩, 39) := ⟨⟨by decide +kernel, by decide +kernel⟩, List.mem_of_getElem? (i := 844) (by decide +kernel), List.mem_of_getElem? (i := 1012) (by decide +kernel), List.mem_of_getElem? (i := 1013) (by decide +kernel)⟩
theorem lw_p34 : lw_okq (⟨"BehaviorRunnerModel", "place", "(II)I"⟩, 39) := ⟨⟨by decide +kernel, by decide +kernel⟩, List.mem_of_getElem? (i := 844) (by decide +kernel), List.mem_of_getElem? (i := 1024) (by decide +kernel), List.mem_of_getElem? (i := 1025) (by decide +kernel)⟩
theorem lw_p35 : lw_okq (⟨"BehaviorRunnerModel", "goes", "(I)I"⟩, 39) := ⟨⟨by decide +kernel, by decide +kernel⟩, List.mem_of_getElem? (i := 844) (by decide +kernel), List.mem_of_getElem? (i := 1032) (by decide +kernel), List.mem_of_getElem? (i := 1033) (by decide +kernel)⟩
theorem lw_p36 : lw_okq (⟨"BehaviorRunnerModel", "enters", "(I)I"⟩, 39) := ⟨⟨by decide +kernel, by decide +kernel⟩, List.mem_of_getElem? (i := 844) (by decide +kernel), List.mem_of_getElem? (i := 1036) (by decide +kernel), List.mem_of_getElem? (i := 1037) (by decide +kernel)⟩
theorem lw_p37 : lw_okq (⟨"BehaviorRunnerModel", "adds", "(II)V"⟩, 39) := ⟨⟨by decide +kernel, by decide +kernel⟩, List.mem_of_getElem? (i := 844) (by decide +kernel), List.mem_of_getElem? (i := 1040) (by decide +kernel), List.mem_of_getElem? (i := 1041) (by decide +kernel)⟩
theorem lw_p38 : lw_okq (⟨"BehaviorRunnerModel", "of", "(II)I"⟩, 39) := ⟨⟨by decide +kernel, by decide +kernel⟩, List.mem_of_getElem? (i := 844) (by decide +kernel), List.mem_of_getElem? (i := 1044) (by decide +kernel), List.mem_of_getElem? (i := 1045) (by decide +kernel)⟩
theorem lw_p39 : lw_okq (⟨"BehaviorRunnerModel", "sets", "(III)V"⟩, 39) := ⟨⟨by decide +kernel, by decide +kernel⟩, List.mem_of_getElem? (i := 844) (by decide +kernel), List.mem_of_getElem? (i := 1048) (by decide +kernel), List.mem_of_getElem? (i := 1049) (by decide +kernel)⟩
theorem lw_p40 : lw_okq (⟨"BehaviorRunnerModel", "acts", "(I)I"⟩, 39) := ⟨⟨by decide +kernel, by decide +kernel⟩, List.mem_of_getElem? (i := 844) (by decide +kernel), List.mem_of_getElem? (i := 1052) (by decide +kernel), List.mem_of_getElem? (i := 1053) (by decide +kernel)⟩
theorem lw_p41 : lw_okq (⟨"BehaviorRunnerModel", "does", "(IIII)V"⟩, 39) := ⟨⟨by decide +kernel, by decide +kernel⟩, List.mem_of_getElem? (i := 844) (by decide +kernel), List.mem_of_getElem? (i := 1056) (by decide +kernel), List.mem_of_getElem? (i := 1057) (by decide +kernel)⟩
theorem lw_p42 : lw_okq (⟨"BehaviorRunnerModel", "holds", "(I)Z"⟩, 39) := ⟨⟨by decide +kernel, by decide +kernel⟩, List.mem_of_getElem? (i := 844) (by decide +kernel), List.mem_of_getElem? (i := 1060) (by decide +kernel), List.mem_of_getElem? (i := 1061) (by decide +kernel)⟩
theorem lw_p43 : lw_okq (⟨"BehaviorRunnerModel", "asks", "(II)I"⟩, 39) := ⟨⟨by decide +kernel, by decide +kernel⟩, List.mem_of_getElem? (i := 844) (by decide +kernel), List.mem_of_getElem? (i := 1064) (by decide +kernel), List.mem_of_getElem? (i := 1065) (by decide +kernel)⟩
theorem lw_p44 : lw_okq (⟨"BehaviorRunnerModel", "childOf", "(II)I"⟩, 39) := ⟨⟨by decide +kernel, by decide +kernel⟩, List.mem_of_getElem? (i := 844) (by decide +kernel), List.mem_of_getElem? (i := 1068) (by decide +kernel), List.mem_of_getElem? (i := 1069) (by decide +kernel)⟩
theorem lw_p45 : lw_okq (⟨"BehaviorRunnerModel", "goesOn", "(I)I"⟩, 39) := ⟨⟨by decide +kernel, by decide +kernel⟩, List.mem_of_getElem? (i := 844) (by decide +kernel), List.mem_of_getElem? (i := 1072) (by decide +kernel), List.mem_of_getElem? (i := 1073) (by decide +kernel)⟩
theorem lw_p46 : lw_okq (⟨"BehaviorRunnerModel", "children", "(I)I"⟩, 39) := ⟨⟨by decide +kernel, by decide +kernel⟩, List.mem_of_getElem? (i := 844) (by decide +kernel), List.mem_of_getElem? (i := 1076) (by decide +kernel), List.mem_of_getElem? (i := 1077) (by decide +kernel)⟩
theorem lw_p47 : lw_okq (⟨"BehaviorRunnerModel", "aborts", "(I)I"⟩, 39) := ⟨⟨by decide +kernel, by decide +kernel⟩, List.mem_of_getElem? (i := 844) (by decide +kernel), List.mem_of_getElem? (i := 1083) (by decide +kernel), List.mem_of_getElem? (i := 1084) (by decide +kernel)⟩
def lw_privs_3 : List (MethodName × Nat) := [(⟨"BehaviorRunnerModel", "end", "(I)V"⟩, 39), (⟨"BehaviorRunnerModel", "goesUp", "()V"⟩, 39), (⟨"BehaviorRunnerModel", "place", "(II)I"⟩, 39), (⟨"BehaviorRunnerModel", "goes", "(I)I"⟩, 39), (⟨"BehaviorRunnerModel", "enters", "(I)I"⟩, 39), (⟨"BehaviorRunnerModel", "adds", "(II)V"⟩, 39), (⟨"BehaviorRunnerModel", "of", "(II)I"⟩, 39), (⟨"BehaviorRunnerModel", "sets", "(III)V"⟩, 39), (⟨"BehaviorRunnerModel", "acts", "(I)I"⟩, 39), (⟨"BehaviorRunnerModel", "does", "(IIII)V"⟩, 39), (⟨"BehaviorRunnerModel", "holds", "(I)Z"⟩, 39), (⟨"BehaviorRunnerModel", "asks", "(II)I"⟩, 39), (⟨"BehaviorRunnerModel", "childOf", "(II)I"⟩, 39), (⟨"BehaviorRunnerModel", "goesOn", "(I)I"⟩, 39), (⟨"BehaviorRunnerModel", "children", "(I)I"⟩, 39), (⟨"BehaviorRunnerModel", "aborts", "(I)I"⟩, 39)]
theorem lw_r3 : ∀ q ∈ lw_privs_3, lw_okq q := List.forall_mem_cons.mpr ⟨lw_p32, List.forall_mem_cons.mpr ⟨lw_p33, List.forall_mem_cons.mpr ⟨lw_p34, List.forall_mem_cons.mpr ⟨lw_p35, List.forall_mem_cons.mpr ⟨lw_p36, List.forall_mem_cons.mpr ⟨lw_p37, List.forall_mem_cons.mpr ⟨lw_p38, List.forall_mem_cons.mpr ⟨lw_p39, List.forall_mem_cons.mpr ⟨lw_p40, List.forall_mem_cons.mpr ⟨lw_p41, List.forall_mem_cons.mpr ⟨lw_p42, List.forall_mem_cons.mpr ⟨lw_p43, List.forall_mem_cons.mpr ⟨lw_p44, List.forall_mem_cons.mpr ⟨lw_p45, List.forall_mem_cons.mpr ⟨lw_p46, List.forall_mem_cons.mpr ⟨lw_p47, fun _ h => absurd h List.not_mem_nil⟩⟩⟩⟩⟩⟩⟩⟩⟩⟩⟩⟩⟩⟩⟩⟩
theorem lw_p48 : lw_okq (⟨"BehaviorRunnerModel", "tells", "(II)V"⟩, 39) := ⟨⟨by decide +kernel, by decide +kernel⟩, List.mem_of_getElem? (i := 844) (by decide +kernel), List.mem_of_getElem? (i := 1087) (by decide +kernel), List.mem_of_getElem? (i := 1088) (by decide +kernel)⟩
theorem lw_p49 : lw_okq (⟨"BehaviorRunnerModel", "ends", "(I)V"⟩, 39) := ⟨⟨by decide +kernel, by decide +kernel⟩, List.mem_of_getElem? (i := 844) (by decide +kernel), List.mem_of_getElem? (i := 1091) (by decide +kernel), List.mem_of_getElem? (i := 1092) (by decide +kernel)⟩
theorem lw_p50 : lw_okq (⟨"BehaviorRunnerModel", "leaves", "(II)V"⟩, 39) := ⟨⟨by decide +kernel, by decide +kernel⟩, List.mem_of_getElem? (i := 844) (by decide +kernel), List.mem_of_getElem? (i := 1095) (by decide +kernel), List.mem_of_getElem? (i := 1096) (by decide +kernel)⟩
theorem lw_p51 : lw_okq (⟨"BehaviorRunnerModel", "ticked", "(I)I"⟩, 39) := ⟨⟨by decide +kernel, by decide +kernel⟩, List.mem_of_getElem? (i := 844) (by decide +kernel), List.mem_of_getElem? (i := 1099) (by decide +kernel), List.mem_of_getElem? (i := 1100) (by decide +kernel)⟩
theorem lw_p52 : lw_okq (⟨"BehaviorRunnerModel", "hears", "(II)I"⟩, 39) := ⟨⟨by decide +kernel, by decide +kernel⟩, List.mem_of_getElem? (i := 844) (by decide +kernel), List.mem_of_getElem? (i := 1103) (by decide +kernel), List.mem_of_getElem? (i := 1104) (by decide +kernel)⟩
theorem lw_p53 : lw_okq (⟨"BehaviorRunnerModel", "counts", "(III)I"⟩, 39) := ⟨⟨by decide +kernel, by decide +kernel⟩, List.mem_of_getElem? (i := 844) (by decide +kernel), List.mem_of_getElem? (i := 1107) (by decide +kernel), List.mem_of_getElem? (i := 1108) (by decide +kernel)⟩
theorem lw_p54 : lw_okq (⟨"BehaviorRunnerModel", "runs", "(I)I"⟩, 39) := ⟨⟨by decide +kernel, by decide +kernel⟩, List.mem_of_getElem? (i := 844) (by decide +kernel), List.mem_of_getElem? (i := 1115) (by decide +kernel), List.mem_of_getElem? (i := 1116) (by decide +kernel)⟩
theorem lw_p55 : lw_okq (⟨"BehaviorRunnerModel", "writesNode", "(I)V"⟩, 39) := ⟨⟨by decide +kernel, by decide +kernel⟩, List.mem_of_getElem? (i := 844) (by decide +kernel), List.mem_of_getElem? (i := 1162) (by decide +kernel), List.mem_of_getElem? (i := 1163) (by decide +kernel)⟩
theorem lw_p56 : lw_okq (⟨"BehaviorRunnerModel", "writes", "(I)V"⟩, 39) := ⟨⟨by decide +kernel, by decide +kernel⟩, List.mem_of_getElem? (i := 844) (by decide +kernel), List.mem_of_getElem? (i := 1169) (by decide +kernel), List.mem_of_getElem? (i := 1170) (by decide +kernel)⟩
theorem lw_p57 : lw_okq (⟨"BehaviorRunnerModel", "writesDeed", "(III)V"⟩, 39) := ⟨⟨by decide +kernel, by decide +kernel⟩, List.mem_of_getElem? (i := 844) (by decide +kernel), List.mem_of_getElem? (i := 1173) (by decide +kernel), List.mem_of_getElem? (i := 1174) (by decide +kernel)⟩
def lw_privs_4 : List (MethodName × Nat) := [(⟨"BehaviorRunnerModel", "tells", "(II)V"⟩, 39), (⟨"BehaviorRunnerModel", "ends", "(I)V"⟩, 39), (⟨"BehaviorRunnerModel", "leaves", "(II)V"⟩, 39), (⟨"BehaviorRunnerModel", "ticked", "(I)I"⟩, 39), (⟨"BehaviorRunnerModel", "hears", "(II)I"⟩, 39), (⟨"BehaviorRunnerModel", "counts", "(III)I"⟩, 39), (⟨"BehaviorRunnerModel", "runs", "(I)I"⟩, 39), (⟨"BehaviorRunnerModel", "writesNode", "(I)V"⟩, 39), (⟨"BehaviorRunnerModel", "writes", "(I)V"⟩, 39), (⟨"BehaviorRunnerModel", "writesDeed", "(III)V"⟩, 39)]
theorem lw_r4 : ∀ q ∈ lw_privs_4, lw_okq q := List.forall_mem_cons.mpr ⟨lw_p48, List.forall_mem_cons.mpr ⟨lw_p49, List.forall_mem_cons.mpr ⟨lw_p50, List.forall_mem_cons.mpr ⟨lw_p51, List.forall_mem_cons.mpr ⟨lw_p52, List.forall_mem_cons.mpr ⟨lw_p53, List.forall_mem_cons.mpr ⟨lw_p54, List.forall_mem_cons.mpr ⟨lw_p55, List.forall_mem_cons.mpr ⟨lw_p56, List.forall_mem_cons.mpr ⟨lw_p57, fun _ h => absurd h List.not_mem_nil⟩⟩⟩⟩⟩⟩⟩⟩⟩⟩
def lw_privs : List (MethodName × Nat) := lw_privs_1 ++ (lw_privs_2 ++ (lw_privs_3 ++ (lw_privs_4)))
def lw_tbl : List Cond := k2_sels lw_privs ++ tables_1
theorem lw_privs_ok : ∀ q ∈ lw_privs, lw_okq q := by
  show ∀ q ∈ lw_privs_1 ++ (lw_privs_2 ++ (lw_privs_3 ++ (lw_privs_4))), lw_okq q
  exact List.forall_mem_append.mpr ⟨lw_r1, List.forall_mem_append.mpr ⟨lw_r2, List.forall_mem_append.mpr ⟨lw_r3, lw_r4⟩⟩⟩
end
section
def RX0 : String := "BehaviorRunner$Board"
def TX0 : u_T := fun k => match k with
  | _ => ("BehaviorRunner$Board", "globals", "[I", true)
def tyX0 : Nat → FieldType := fun k => match k with
  | _ => .array .int
theorem nmX0 : ∀ a, a < 1 → ∀ b, b < 1 → a ≠ b → (TX0 a).2.1 ≠ (TX0 b).2.1 := by decide +kernel
theorem tyX0_ok : ∀ k, k < 1 → parseFieldDescriptor (TX0 k).2.2.1 = some (tyX0 k) := by decide +kernel
abbrev cX0_init : ByteArray := prog_2_method_1_code
def yX0_init : MethodName := ⟨RX0, "<init>", "()V"⟩
abbrev cX0_copyFrom : ByteArray := prog_2_method_2_code
def yX0_copyFrom : MethodName := ⟨RX0, "copyFrom", "(LBehaviorRunner$Board;)V"⟩
abbrev cX0_valueIn : ByteArray := prog_2_method_3_code
def yX0_valueIn : MethodName := ⟨RX0, "valueIn", "(LBehaviorRunner$Node;I)I"⟩
abbrev cX0_put : ByteArray := prog_2_method_4_code
def yX0_put : MethodName := ⟨RX0, "put", "(LBehaviorRunner$Node;II)V"⟩
abbrev cX0_change : ByteArray := prog_2_method_5_code
def yX0_change : MethodName := ⟨RX0, "change", "(LBehaviorRunner$Clause;)V"⟩
abbrev cX0_fulfils : ByteArray := prog_2_method_6_code
def yX0_fulfils : MethodName := ⟨RX0, "fulfils", "(LBehaviorRunner$Clause;)Z"⟩
def RX1 : String := "BehaviorRunner$Clause"
def TX1 : u_T := fun k => match k with
  | 0 => ("BehaviorRunner$Clause", "present", "Z", false)
  | 1 => ("BehaviorRunner$Clause", "key", "I", false)
  | 2 => ("BehaviorRunner$Clause", "sign", "C", false)
  | 3 => ("BehaviorRunner$Clause", "number", "I", false)
  | _ => ("BehaviorRunner$Clause", "scope", "LBehaviorRunner$Node;", false)
def tyX1 : Nat → FieldType := fun k => match k with
  | 0 => .boolean
  | 1 => .int
  | 2 => .char
  | 3 => .int
  | _ => .object "BehaviorRunner$Node"
theorem nmX1 : ∀ a, a < 5 → ∀ b, b < 5 → a ≠ b → (TX1 a).2.1 ≠ (TX1 b).2.1 := by decide +kernel
theorem tyX1_ok : ∀ k, k < 5 → parseFieldDescriptor (TX1 k).2.2.1 = some (tyX1 k) := by decide +kernel
abbrev cX1_init : ByteArray := prog_3_method_1_code
def yX1_init : MethodName := ⟨RX1, "<init>", "()V"⟩
abbrev cX1_clear : ByteArray := prog_3_method_2_code
def yX1_clear : MethodName := ⟨RX1, "clear", "()V"⟩
def RX2 : String := "BehaviorRunner$Ledger"
def TX2 : u_T := fun k => match k with
  | 0 => ("BehaviorRunner$Ledger", "next", "LBehaviorRunner$Node;", false)
  | 1 => ("BehaviorRunner$Ledger", "ticks", "I", false)
  | 2 => ("BehaviorRunner$Ledger", "successes", "I", false)
  | 3 => ("BehaviorRunner$Ledger", "failures", "I", false)
  | 4 => ("BehaviorRunner$Ledger", "visits", "I", false)
  | 5 => ("BehaviorRunner$Ledger", "aborts", "I", false)
  | 6 => ("BehaviorRunner$Ledger", "ends", "I", false)
  | 7 => ("BehaviorRunner$Ledger", "suspensions", "I", false)
  | 8 => ("BehaviorRunner$Ledger", "traced", "I", false)
  | 9 => ("BehaviorRunner$Ledger", "tracedNodes", "[I", true)
  | _ => ("BehaviorRunner$Ledger", "tracedResults", "[I", true)
def tyX2 : Nat → FieldType := fun k => match k with
  | 0 => .object "BehaviorRunner$Node"
  | 1 => .int
  | 2 => .int
  | 3 => .int
  | 4 => .int
  | 5 => .int
  | 6 => .int
  | 7 => .int
  | 8 => .int
  | 9 => .array .int
  | _ => .array .int
theorem nmX2 : ∀ a, a < 11 → ∀ b, b < 11 → a ≠ b → (TX2 a).2.1 ≠ (TX2 b).2.1 := by decide +kernel
theorem tyX2_ok : ∀ k, k < 11 → parseFieldDescriptor (TX2 k).2.2.1 = some (tyX2 k) := by decide +kernel
abbrev cX2_init : ByteArray := prog_4_method_1_code
def yX2_init : MethodName := ⟨RX2, "<init>", "()V"⟩
abbrev cX2_clear : ByteArray := prog_4_method_2_code
def yX2_clear : MethodName := ⟨RX2, "clear", "()V"⟩
abbrev cX2_copyFrom : ByteArray := prog_4_method_3_code
def yX2_copyFrom : MethodName := ⟨RX2, "copyFrom", "(LBehaviorRunner$Ledger;)V"⟩
abbrev cX2_endTick : ByteArray := prog_4_method_4_code
def yX2_endTick : MethodName := ⟨RX2, "endTick", "(I)V"⟩
abbrev cX2_enter : ByteArray := prog_4_method_5_code
def yX2_enter : MethodName := ⟨RX2, "enter", "(LBehaviorRunner$Node;I)V"⟩
abbrev cX2_entries : ByteArray := prog_4_method_6_code
def yX2_entries : MethodName := ⟨RX2, "entries", "()I"⟩
abbrev cX2_tracedNode : ByteArray := prog_4_method_7_code
def yX2_tracedNode : MethodName := ⟨RX2, "tracedNode", "(I)I"⟩
abbrev cX2_tracedResult : ByteArray := prog_4_method_8_code
def yX2_tracedResult : MethodName := ⟨RX2, "tracedResult", "(I)I"⟩
abbrev cX2_placeOf : ByteArray := prog_4_method_9_code
def yX2_placeOf : MethodName := ⟨RX2, "placeOf", "(I)I"⟩
def RX3 : String := "BehaviorRunner$Life"
def TX3 : u_T := fun k => match k with
  | 0 => ("BehaviorRunner$Life", "running", "Z", false)
  | 1 => ("BehaviorRunner$Life", "counted", "I", false)
  | 2 => ("BehaviorRunner$Life", "current", "LBehaviorRunner$Node;", false)
  | 3 => ("BehaviorRunner$Life", "latest", "I", false)
  | 4 => ("BehaviorRunner$Life", "local", "I", false)
  | 5 => ("BehaviorRunner$Life", "runs", "I", false)
  | 6 => ("BehaviorRunner$Life", "successes", "I", false)
  | 7 => ("BehaviorRunner$Life", "failures", "I", false)
  | 8 => ("BehaviorRunner$Life", "aborts", "I", false)
  | _ => ("BehaviorRunner$Life", "visits", "I", false)
def tyX3 : Nat → FieldType := fun k => match k with
  | 0 => .boolean
  | 1 => .int
  | 2 => .object "BehaviorRunner$Node"
  | 3 => .int
  | 4 => .int
  | 5 => .int
  | 6 => .int
  | 7 => .int
  | 8 => .int
  | _ => .int
theorem nmX3 : ∀ a, a < 10 → ∀ b, b < 10 → a ≠ b → (TX3 a).2.1 ≠ (TX3 b).2.1 := by decide +kernel
theorem tyX3_ok : ∀ k, k < 10 → parseFieldDescriptor (TX3 k).2.2.1 = some (tyX3 k) := by decide +kernel
abbrev cX3_init : ByteArray := prog_5_method_1_code
def yX3_init : MethodName := ⟨RX3, "<init>", "()V"⟩
abbrev cX3_clear : ByteArray := prog_5_method_2_code
def yX3_clear : MethodName := ⟨RX3, "clear", "()V"⟩
abbrev cX3_copyFrom : ByteArray := prog_5_method_3_code
def yX3_copyFrom : MethodName := ⟨RX3, "copyFrom", "(LBehaviorRunner$Life;)V"⟩
def RX4 : String := "BehaviorRunner$Node"
def TX4 : u_T := fun k => match k with
  | 0 => ("BehaviorRunner$Node", "index", "I", true)
  | 1 => ("BehaviorRunner$Node", "clause", "LBehaviorRunner$Clause;", true)
  | 2 => ("BehaviorRunner$Node", "end", "LBehaviorRunner$Clause;", true)
  | 3 => ("BehaviorRunner$Node", "life", "LBehaviorRunner$Life;", true)
  | 4 => ("BehaviorRunner$Node", "kind", "I", false)
  | 5 => ("BehaviorRunner$Node", "number", "I", false)
  | 6 => ("BehaviorRunner$Node", "depth", "I", false)
  | 7 => ("BehaviorRunner$Node", "children", "I", false)
  | 8 => ("BehaviorRunner$Node", "before", "LBehaviorRunner$Node;", false)
  | 9 => ("BehaviorRunner$Node", "parent", "LBehaviorRunner$Node;", false)
  | 10 => ("BehaviorRunner$Node", "firstChild", "LBehaviorRunner$Node;", false)
  | 11 => ("BehaviorRunner$Node", "lastChild", "LBehaviorRunner$Node;", false)
  | 12 => ("BehaviorRunner$Node", "nextSibling", "LBehaviorRunner$Node;", false)
  | _ => ("BehaviorRunner$Node", "lastBelow", "LBehaviorRunner$Node;", false)
def tyX4 : Nat → FieldType := fun k => match k with
  | 0 => .int
  | 1 => .object "BehaviorRunner$Clause"
  | 2 => .object "BehaviorRunner$Clause"
  | 3 => .object "BehaviorRunner$Life"
  | 4 => .int
  | 5 => .int
  | 6 => .int
  | 7 => .int
  | 8 => .object "BehaviorRunner$Node"
  | 9 => .object "BehaviorRunner$Node"
  | 10 => .object "BehaviorRunner$Node"
  | 11 => .object "BehaviorRunner$Node"
  | 12 => .object "BehaviorRunner$Node"
  | _ => .object "BehaviorRunner$Node"
theorem nmX4 : ∀ a, a < 14 → ∀ b, b < 14 → a ≠ b → (TX4 a).2.1 ≠ (TX4 b).2.1 := by decide +kernel
theorem tyX4_ok : ∀ k, k < 14 → parseFieldDescriptor (TX4 k).2.2.1 = some (tyX4 k) := by decide +kernel
abbrev cX4_init : ByteArray := prog_6_method_1_code
def yX4_init : MethodName := ⟨RX4, "<init>", "(I)V"⟩
abbrev cX4_reset : ByteArray := prog_6_method_2_code
def yX4_reset : MethodName := ⟨RX4, "reset", "(ILBehaviorRunner$Node;LBehaviorRunner$Node;)V"⟩
abbrev cX4_adopt : ByteArray := prog_6_method_3_code
def yX4_adopt : MethodName := ⟨RX4, "adopt", "(LBehaviorRunner$Node;)V"⟩
abbrev cX4_hasList : ByteArray := prog_6_method_4_code
def yX4_hasList : MethodName := ⟨RX4, "hasList", "()Z"⟩
abbrev cX4_isReactive : ByteArray := prog_6_method_5_code
def yX4_isReactive : MethodName := ⟨RX4, "isReactive", "()Z"⟩
abbrev cX4_scopeOf : ByteArray := prog_6_method_6_code
def yX4_scopeOf : MethodName := ⟨RX4, "scopeOf", "(I)LBehaviorRunner$Node;"⟩
def RX5 : String := "BehaviorRunner$Parser"
def TX5 : u_T := fun k => match k with
  | 0 => ("BehaviorRunner$Parser", "text", "LBehaviorRunner$Text;", true)
  | 1 => ("BehaviorRunner$Parser", "tree", "LBehaviorRunner$Tree;", true)
  | _ => ("BehaviorRunner$Parser", "offset", "I", false)
def tyX5 : Nat → FieldType := fun k => match k with
  | 0 => .object "BehaviorRunner$Text"
  | 1 => .object "BehaviorRunner$Tree"
  | _ => .int
theorem nmX5 : ∀ a, a < 3 → ∀ b, b < 3 → a ≠ b → (TX5 a).2.1 ≠ (TX5 b).2.1 := by decide +kernel
theorem tyX5_ok : ∀ k, k < 3 → parseFieldDescriptor (TX5 k).2.2.1 = some (tyX5 k) := by decide +kernel
abbrev cX5_init : ByteArray := prog_7_method_1_code
def yX5_init : MethodName := ⟨RX5, "<init>", "(LBehaviorRunner$Text;LBehaviorRunner$Tree;)V"⟩
abbrev cX5_parse : ByteArray := prog_7_method_2_code
def yX5_parse : MethodName := ⟨RX5, "parse", "()I"⟩
abbrev cX5_readNode : ByteArray := prog_7_method_3_code
def yX5_readNode : MethodName := ⟨RX5, "readNode", "(LBehaviorRunner$Node;I)Z"⟩
abbrev cX5_readRest : ByteArray := prog_7_method_4_code
def yX5_readRest : MethodName := ⟨RX5, "readRest", "(LBehaviorRunner$Node;I)Z"⟩
abbrev cX5_readList : ByteArray := prog_7_method_5_code
def yX5_readList : MethodName := ⟨RX5, "readList", "(LBehaviorRunner$Node;I)Z"⟩
abbrev cX5_readNumber : ByteArray := prog_7_method_6_code
def yX5_readNumber : MethodName := ⟨RX5, "readNumber", "(LBehaviorRunner$Node;II)Z"⟩
abbrev cX5_readEffects : ByteArray := prog_7_method_7_code
def yX5_readEffects : MethodName := ⟨RX5, "readEffects", "(LBehaviorRunner$Node;)Z"⟩
abbrev cX5_readClause : ByteArray := prog_7_method_8_code
def yX5_readClause : MethodName := ⟨RX5, "readClause", "(LBehaviorRunner$Node;LBehaviorRunner$Clause;Ljava/lang/String;)Z"⟩
abbrev cX5_readDigit : ByteArray := prog_7_method_9_code
def yX5_readDigit : MethodName := ⟨RX5, "readDigit", "(II)I"⟩
abbrev cX5_skip : ByteArray := prog_7_method_10_code
def yX5_skip : MethodName := ⟨RX5, "skip", "(C)Z"⟩
abbrev cX5_placeIn : ByteArray := prog_7_method_11_code
def yX5_placeIn : MethodName := ⟨RX5, "placeIn", "(Ljava/lang/String;)I"⟩
def RX6 : String := "BehaviorRunner$Snapshot"
def TX6 : u_T := fun k => match k with
  | 0 => ("BehaviorRunner$Snapshot", "lives", "[LBehaviorRunner$Life;", true)
  | 1 => ("BehaviorRunner$Snapshot", "board", "LBehaviorRunner$Board;", true)
  | _ => ("BehaviorRunner$Snapshot", "ledger", "LBehaviorRunner$Ledger;", true)
def tyX6 : Nat → FieldType := fun k => match k with
  | 0 => .array (.object "BehaviorRunner$Life")
  | 1 => .object "BehaviorRunner$Board"
  | _ => .object "BehaviorRunner$Ledger"
theorem nmX6 : ∀ a, a < 3 → ∀ b, b < 3 → a ≠ b → (TX6 a).2.1 ≠ (TX6 b).2.1 := by decide +kernel
theorem tyX6_ok : ∀ k, k < 3 → parseFieldDescriptor (TX6 k).2.2.1 = some (tyX6 k) := by decide +kernel
abbrev cX6_init : ByteArray := prog_8_method_1_code
def yX6_init : MethodName := ⟨RX6, "<init>", "()V"⟩
abbrev cX6_take : ByteArray := prog_8_method_2_code
def yX6_take : MethodName := ⟨RX6, "take", "(LBehaviorRunner$Tree;LBehaviorRunner$Board;LBehaviorRunner$Ledger;)V"⟩
abbrev cX6_giveBack : ByteArray := prog_8_method_3_code
def yX6_giveBack : MethodName := ⟨RX6, "giveBack", "(LBehaviorRunner$Tree;LBehaviorRunner$Board;LBehaviorRunner$Ledger;)V"⟩
def RX7 : String := "BehaviorRunner$Text"
def TX7 : u_T := fun k => match k with
  | 0 => ("BehaviorRunner$Text", "characters", "[C", true)
  | _ => ("BehaviorRunner$Text", "length", "I", false)
def tyX7 : Nat → FieldType := fun k => match k with
  | 0 => .array .char
  | _ => .int
theorem nmX7 : ∀ a, a < 2 → ∀ b, b < 2 → a ≠ b → (TX7 a).2.1 ≠ (TX7 b).2.1 := by decide +kernel
theorem tyX7_ok : ∀ k, k < 2 → parseFieldDescriptor (TX7 k).2.2.1 = some (tyX7 k) := by decide +kernel
abbrev cX7_init : ByteArray := prog_9_method_1_code
def yX7_init : MethodName := ⟨RX7, "<init>", "()V"⟩
abbrev cX7_clear : ByteArray := prog_9_method_2_code
def yX7_clear : MethodName := ⟨RX7, "clear", "()V"⟩
abbrev cX7_add : ByteArray := prog_9_method_3_code
def yX7_add : MethodName := ⟨RX7, "add", "(C)V"⟩
abbrev cX7_codeAt : ByteArray := prog_9_method_4_code
def yX7_codeAt : MethodName := ⟨RX7, "codeAt", "(I)I"⟩
def RX8 : String := "BehaviorRunner$Tree"
def TX8 : u_T := fun k => match k with
  | 0 => ("BehaviorRunner$Tree", "nodes", "[LBehaviorRunner$Node;", true)
  | _ => ("BehaviorRunner$Tree", "size", "I", false)
def tyX8 : Nat → FieldType := fun k => match k with
  | 0 => .array (.object "BehaviorRunner$Node")
  | _ => .int
theorem nmX8 : ∀ a, a < 2 → ∀ b, b < 2 → a ≠ b → (TX8 a).2.1 ≠ (TX8 b).2.1 := by decide +kernel
theorem tyX8_ok : ∀ k, k < 2 → parseFieldDescriptor (TX8 k).2.2.1 = some (tyX8 k) := by decide +kernel
abbrev cX8_init : ByteArray := prog_10_method_1_code
def yX8_init : MethodName := ⟨RX8, "<init>", "()V"⟩
abbrev cX8_nodeAt : ByteArray := prog_10_method_2_code
def yX8_nodeAt : MethodName := ⟨RX8, "nodeAt", "(I)LBehaviorRunner$Node;"⟩
abbrev cX8_grow : ByteArray := prog_10_method_3_code
def yX8_grow : MethodName := ⟨RX8, "grow", "(ILBehaviorRunner$Node;)LBehaviorRunner$Node;"⟩
abbrev cX8_runningNodes : ByteArray := prog_10_method_4_code
def yX8_runningNodes : MethodName := ⟨RX8, "runningNodes", "()I"⟩
def RX9 : String := "BehaviorRunner$Walker"
def TX9 : u_T := fun k => match k with
  | 0 => ("BehaviorRunner$Walker", "board", "LBehaviorRunner$Board;", true)
  | _ => ("BehaviorRunner$Walker", "ledger", "LBehaviorRunner$Ledger;", true)
def tyX9 : Nat → FieldType := fun k => match k with
  | 0 => .object "BehaviorRunner$Board"
  | _ => .object "BehaviorRunner$Ledger"
theorem nmX9 : ∀ a, a < 2 → ∀ b, b < 2 → a ≠ b → (TX9 a).2.1 ≠ (TX9 b).2.1 := by decide +kernel
theorem tyX9_ok : ∀ k, k < 2 → parseFieldDescriptor (TX9 k).2.2.1 = some (tyX9 k) := by decide +kernel
abbrev cX9_init : ByteArray := prog_11_method_1_code
def yX9_init : MethodName := ⟨RX9, "<init>", "()V"⟩
abbrev cX9_perform : ByteArray := prog_11_method_2_code
def yX9_perform : MethodName := ⟨RX9, "perform", "(LBehaviorRunner$Node;I)I"⟩
abbrev cX9_stopBack : ByteArray := prog_11_method_3_code
def yX9_stopBack : MethodName := ⟨RX9, "stopBack", "(LBehaviorRunner$Node;LBehaviorRunner$Node;)V"⟩
abbrev cX9_endRun : ByteArray := prog_11_method_4_code
def yX9_endRun : MethodName := ⟨RX9, "endRun", "(LBehaviorRunner$Node;I)V"⟩
abbrev cX9_beginVisit : ByteArray := prog_11_method_5_code
def yX9_beginVisit : MethodName := ⟨RX9, "beginVisit", "(LBehaviorRunner$Node;)I"⟩
abbrev cX9_beginRun : ByteArray := prog_11_method_6_code
def yX9_beginRun : MethodName := ⟨RX9, "beginRun", "(LBehaviorRunner$Node;)V"⟩
abbrev cX9_act : ByteArray := prog_11_method_7_code
def yX9_act : MethodName := ⟨RX9, "act", "(LBehaviorRunner$Node;I)I"⟩
abbrev cX9_goDown : ByteArray := prog_11_method_8_code
def yX9_goDown : MethodName := ⟨RX9, "goDown", "(LBehaviorRunner$Node;)I"⟩
abbrev cX9_goDownIf : ByteArray := prog_11_method_9_code
def yX9_goDownIf : MethodName := ⟨RX9, "goDownIf", "(ZLBehaviorRunner$Node;)I"⟩
abbrev cX9_endVisit : ByteArray := prog_11_method_10_code
def yX9_endVisit : MethodName := ⟨RX9, "endVisit", "(LBehaviorRunner$Node;I)V"⟩
abbrev cX9_goOn : ByteArray := prog_11_method_11_code
def yX9_goOn : MethodName := ⟨RX9, "goOn", "(LBehaviorRunner$Node;LBehaviorRunner$Node;I)I"⟩
abbrev cX9_goOnInList : ByteArray := prog_11_method_12_code
def yX9_goOnInList : MethodName := ⟨RX9, "goOnInList", "(LBehaviorRunner$Node;LBehaviorRunner$Node;II)I"⟩
abbrev cX9_goOnInParallel : ByteArray := prog_11_method_13_code
def yX9_goOnInParallel : MethodName := ⟨RX9, "goOnInParallel", "(LBehaviorRunner$Node;LBehaviorRunner$Node;)I"⟩
abbrev cX9_countResult : ByteArray := prog_11_method_14_code
def yX9_countResult : MethodName := ⟨RX9, "countResult", "(LBehaviorRunner$Node;II)I"⟩
def RX10 : String := "BehaviorRunner$Writer"
def TX10 : u_T := fun k => match k with
  | 0 => ("BehaviorRunner$Writer", "tree", "LBehaviorRunner$Tree;", true)
  | _ => ("BehaviorRunner$Writer", "text", "LBehaviorRunner$Text;", true)
def tyX10 : Nat → FieldType := fun k => match k with
  | 0 => .object "BehaviorRunner$Tree"
  | _ => .object "BehaviorRunner$Text"
theorem nmX10 : ∀ a, a < 2 → ∀ b, b < 2 → a ≠ b → (TX10 a).2.1 ≠ (TX10 b).2.1 := by decide +kernel
theorem tyX10_ok : ∀ k, k < 2 → parseFieldDescriptor (TX10 k).2.2.1 = some (tyX10 k) := by decide +kernel
abbrev cX10_init : ByteArray := prog_12_method_1_code
def yX10_init : MethodName := ⟨RX10, "<init>", "(LBehaviorRunner$Tree;LBehaviorRunner$Text;)V"⟩
abbrev cX10_writeTree : ByteArray := prog_12_method_2_code
def yX10_writeTree : MethodName := ⟨RX10, "writeTree", "()V"⟩
abbrev cX10_writeHead : ByteArray := prog_12_method_3_code
def yX10_writeHead : MethodName := ⟨RX10, "writeHead", "(LBehaviorRunner$Node;)V"⟩
abbrev cX10_writeBehind : ByteArray := prog_12_method_4_code
def yX10_writeBehind : MethodName := ⟨RX10, "writeBehind", "(LBehaviorRunner$Node;)V"⟩
abbrev cX10_hasNumber : ByteArray := prog_12_method_5_code
def yX10_hasNumber : MethodName := ⟨RX10, "hasNumber", "(LBehaviorRunner$Node;)Z"⟩
abbrev cX10_writeClause : ByteArray := prog_12_method_6_code
def yX10_writeClause : MethodName := ⟨RX10, "writeClause", "(LBehaviorRunner$Clause;)V"⟩
abbrev cX10_writeNumber : ByteArray := prog_12_method_7_code
def yX10_writeNumber : MethodName := ⟨RX10, "writeNumber", "(I)V"⟩
def RX11 : String := "BehaviorRunner"
def TX11 : u_T := fun k => match k with
  | 0 => ("BehaviorRunner", "typed", "LBehaviorRunner$Text;", true)
  | 1 => ("BehaviorRunner", "output", "LBehaviorRunner$Text;", true)
  | 2 => ("BehaviorRunner", "walker", "LBehaviorRunner$Walker;", true)
  | 3 => ("BehaviorRunner", "board", "LBehaviorRunner$Board;", true)
  | 4 => ("BehaviorRunner", "ledger", "LBehaviorRunner$Ledger;", true)
  | 5 => ("BehaviorRunner", "saved", "LBehaviorRunner$Snapshot;", true)
  | 6 => ("BehaviorRunner", "aside", "LBehaviorRunner$Snapshot;", true)
  | 7 => ("BehaviorRunner", "tree", "LBehaviorRunner$Tree;", false)
  | 8 => ("BehaviorRunner", "spare", "LBehaviorRunner$Tree;", false)
  | _ => ("BehaviorRunner", "hasSaved", "Z", false)
def tyX11 : Nat → FieldType := fun k => match k with
  | 0 => .object "BehaviorRunner$Text"
  | 1 => .object "BehaviorRunner$Text"
  | 2 => .object "BehaviorRunner$Walker"
  | 3 => .object "BehaviorRunner$Board"
  | 4 => .object "BehaviorRunner$Ledger"
  | 5 => .object "BehaviorRunner$Snapshot"
  | 6 => .object "BehaviorRunner$Snapshot"
  | 7 => .object "BehaviorRunner$Tree"
  | 8 => .object "BehaviorRunner$Tree"
  | _ => .boolean
theorem nmX11 : ∀ a, a < 10 → ∀ b, b < 10 → a ≠ b → (TX11 a).2.1 ≠ (TX11 b).2.1 := by decide +kernel
theorem tyX11_ok : ∀ k, k < 10 → parseFieldDescriptor (TX11 k).2.2.1 = some (tyX11 k) := by decide +kernel
abbrev cX11_init : ByteArray := prog_1_method_1_code
def yX11_init : MethodName := ⟨RX11, "<init>", "()V"⟩
abbrev cX11_append : ByteArray := prog_1_method_2_code
def yX11_append : MethodName := ⟨RX11, "append", "(II)I"⟩
abbrev cX11_readTree : ByteArray := prog_1_method_3_code
def yX11_readTree : MethodName := ⟨RX11, "readTree", "()I"⟩
abbrev cX11_set : ByteArray := prog_1_method_4_code
def yX11_set : MethodName := ⟨RX11, "set", "(II)I"⟩
abbrev cX11_value : ByteArray := prog_1_method_5_code
def yX11_value : MethodName := ⟨RX11, "value", "(II)I"⟩
abbrev cX11_tick : ByteArray := prog_1_method_6_code
def yX11_tick : MethodName := ⟨RX11, "tick", "(I)I"⟩
abbrev cX11_run : ByteArray := prog_1_method_7_code
def yX11_run : MethodName := ⟨RX11, "run", "(I)I"⟩
abbrev cX11_foresee : ByteArray := prog_1_method_8_code
def yX11_foresee : MethodName := ⟨RX11, "foresee", "()I"⟩
abbrev cX11_ticksToGo : ByteArray := prog_1_method_9_code
def yX11_ticksToGo : MethodName := ⟨RX11, "ticksToGo", "()I"⟩
abbrev cX11_abort : ByteArray := prog_1_method_10_code
def yX11_abort : MethodName := ⟨RX11, "abort", "()I"⟩
abbrev cX11_node : ByteArray := prog_1_method_11_code
def yX11_node : MethodName := ⟨RX11, "node", "(II)I"⟩
abbrev cX11_child : ByteArray := prog_1_method_12_code
def yX11_child : MethodName := ⟨RX11, "child", "(II)I"⟩
abbrev cX11_underWay : ByteArray := prog_1_method_13_code
def yX11_underWay : MethodName := ⟨RX11, "underWay", "(I)I"⟩
abbrev cX11_pending : ByteArray := prog_1_method_14_code
def yX11_pending : MethodName := ⟨RX11, "pending", "()I"⟩
abbrev cX11_trace : ByteArray := prog_1_method_15_code
def yX11_trace : MethodName := ⟨RX11, "trace", "(II)I"⟩
abbrev cX11_count : ByteArray := prog_1_method_16_code
def yX11_count : MethodName := ⟨RX11, "count", "(I)I"⟩
abbrev cX11_write : ByteArray := prog_1_method_17_code
def yX11_write : MethodName := ⟨RX11, "write", "()I"⟩
abbrev cX11_written : ByteArray := prog_1_method_18_code
def yX11_written : MethodName := ⟨RX11, "written", "(I)I"⟩
abbrev cX11_save : ByteArray := prog_1_method_19_code
def yX11_save : MethodName := ⟨RX11, "save", "()I"⟩
abbrev cX11_restore : ByteArray := prog_1_method_20_code
def yX11_restore : MethodName := ⟨RX11, "restore", "()I"⟩
def RX12 : String := "BehaviorRunnerModel"
def TX12 : u_T := fun k => match k with
  | 0 => ("BehaviorRunnerModel", "v", "[I", true)
  | 1 => ("BehaviorRunnerModel", "saved", "[I", true)
  | 2 => ("BehaviorRunnerModel", "kept", "[I", true)
  | 3 => ("BehaviorRunnerModel", "isSaved", "Z", false)
  | 4 => ("BehaviorRunnerModel", "text", "[I", true)
  | 5 => ("BehaviorRunnerModel", "written", "[I", true)
  | 6 => ("BehaviorRunnerModel", "textN", "I", false)
  | 7 => ("BehaviorRunnerModel", "writtenN", "I", false)
  | 8 => ("BehaviorRunnerModel", "nodes", "I", false)
  | 9 => ("BehaviorRunnerModel", "kind", "[I", true)
  | 10 => ("BehaviorRunnerModel", "number", "[I", true)
  | 11 => ("BehaviorRunnerModel", "above", "[I", true)
  | 12 => ("BehaviorRunnerModel", "depth", "[I", true)
  | 13 => ("BehaviorRunnerModel", "last", "[I", true)
  | 14 => ("BehaviorRunnerModel", "deedKey", "[I", true)
  | 15 => ("BehaviorRunnerModel", "deedSign", "[I", true)
  | 16 => ("BehaviorRunnerModel", "deedNumber", "[I", true)
  | 17 => ("BehaviorRunnerModel", "endKey", "[I", true)
  | 18 => ("BehaviorRunnerModel", "endSign", "[I", true)
  | 19 => ("BehaviorRunnerModel", "endNumber", "[I", true)
  | 20 => ("BehaviorRunnerModel", "at", "I", false)
  | 21 => ("BehaviorRunnerModel", "made", "I", false)
  | 22 => ("BehaviorRunnerModel", "isFaulty", "Z", false)
  | 23 => ("BehaviorRunnerModel", "newKind", "[I", true)
  | 24 => ("BehaviorRunnerModel", "newNumber", "[I", true)
  | 25 => ("BehaviorRunnerModel", "newAbove", "[I", true)
  | 26 => ("BehaviorRunnerModel", "newDepth", "[I", true)
  | 27 => ("BehaviorRunnerModel", "newLast", "[I", true)
  | 28 => ("BehaviorRunnerModel", "newKey", "[I", true)
  | 29 => ("BehaviorRunnerModel", "newSign", "[I", true)
  | 30 => ("BehaviorRunnerModel", "newWorth", "[I", true)
  | 31 => ("BehaviorRunnerModel", "newEndKey", "[I", true)
  | 32 => ("BehaviorRunnerModel", "newEndSign", "[I", true)
  | 33 => ("BehaviorRunnerModel", "newEndWorth", "[I", true)
  | 34 => ("BehaviorRunnerModel", "open", "[I", true)
  | 35 => ("BehaviorRunnerModel", "opened", "I", false)
  | 36 => ("BehaviorRunnerModel", "isMore", "Z", false)
  | 37 => ("BehaviorRunnerModel", "budget", "I", false)
  | _ => ("BehaviorRunnerModel", "passed", "I", false)
def tyX12 : Nat → FieldType := fun k => match k with
  | 0 => .array .int
  | 1 => .array .int
  | 2 => .array .int
  | 3 => .boolean
  | 4 => .array .int
  | 5 => .array .int
  | 6 => .int
  | 7 => .int
  | 8 => .int
  | 9 => .array .int
  | 10 => .array .int
  | 11 => .array .int
  | 12 => .array .int
  | 13 => .array .int
  | 14 => .array .int
  | 15 => .array .int
  | 16 => .array .int
  | 17 => .array .int
  | 18 => .array .int
  | 19 => .array .int
  | 20 => .int
  | 21 => .int
  | 22 => .boolean
  | 23 => .array .int
  | 24 => .array .int
  | 25 => .array .int
  | 26 => .array .int
  | 27 => .array .int
  | 28 => .array .int
  | 29 => .array .int
  | 30 => .array .int
  | 31 => .array .int
  | 32 => .array .int
  | 33 => .array .int
  | 34 => .array .int
  | 35 => .int
  | 36 => .boolean
  | 37 => .int
  | _ => .int
theorem nmX12 : ∀ a, a < 39 → ∀ b, b < 39 → a ≠ b → (TX12 a).2.1 ≠ (TX12 b).2.1 := by decide +kernel
theorem tyX12_ok : ∀ k, k < 39 → parseFieldDescriptor (TX12 k).2.2.1 = some (tyX12 k) := by decide +kernel
abbrev cX12_init : ByteArray := prog_14_method_1_code
def yX12_init : MethodName := ⟨RX12, "<init>", "()V"⟩
abbrev cX12_isIn : ByteArray := prog_14_method_2_code
def yX12_isIn : MethodName := ⟨RX12, "isIn", "(III)Z"⟩
abbrev cX12_copies : ByteArray := prog_14_method_3_code
def yX12_copies : MethodName := ⟨RX12, "copies", "([I[I)V"⟩
abbrev cX12_of : ByteArray := prog_14_method_4_code
def yX12_of : MethodName := ⟨RX12, "of", "(II)I"⟩
abbrev cX12_sets : ByteArray := prog_14_method_5_code
def yX12_sets : MethodName := ⟨RX12, "sets", "(III)V"⟩
abbrev cX12_adds : ByteArray := prog_14_method_6_code
def yX12_adds : MethodName := ⟨RX12, "adds", "(II)V"⟩
abbrev cX12_append : ByteArray := prog_14_method_7_code
def yX12_append : MethodName := ⟨RX12, "append", "(II)I"⟩
abbrev cX12_here : ByteArray := prog_14_method_8_code
def yX12_here : MethodName := ⟨RX12, "here", "()I"⟩
abbrev cX12_digit : ByteArray := prog_14_method_9_code
def yX12_digit : MethodName := ⟨RX12, "digit", "(II)I"⟩
abbrev cX12_worth : ByteArray := prog_14_method_10_code
def yX12_worth : MethodName := ⟨RX12, "worth", "()I"⟩
abbrev cX12_sign : ByteArray := prog_14_method_11_code
def yX12_sign : MethodName := ⟨RX12, "sign", "(Z)I"⟩
abbrev cX12_deed : ByteArray := prog_14_method_12_code
def yX12_deed : MethodName := ⟨RX12, "deed", "(IZ)V"⟩
abbrev cX12_end : ByteArray := prog_14_method_13_code
def yX12_end : MethodName := ⟨RX12, "end", "(I)V"⟩
abbrev cX12_kindOf : ByteArray := prog_14_method_14_code
def yX12_kindOf : MethodName := ⟨RX12, "kindOf", "(I)I"⟩
abbrev cX12_isList : ByteArray := prog_14_method_15_code
def yX12_isList : MethodName := ⟨RX12, "isList", "(I)Z"⟩
abbrev cX12_begins : ByteArray := prog_14_method_16_code
def yX12_begins : MethodName := ⟨RX12, "begins", "()V"⟩
abbrev cX12_goesUp : ByteArray := prog_14_method_17_code
def yX12_goesUp : MethodName := ⟨RX12, "goesUp", "()V"⟩
abbrev cX12_readTree : ByteArray := prog_14_method_18_code
def yX12_readTree : MethodName := ⟨RX12, "readTree", "()I"⟩
abbrev cX12_set : ByteArray := prog_14_method_19_code
def yX12_set : MethodName := ⟨RX12, "set", "(II)I"⟩
abbrev cX12_place : ByteArray := prog_14_method_20_code
def yX12_place : MethodName := ⟨RX12, "place", "(II)I"⟩
abbrev cX12_value : ByteArray := prog_14_method_21_code
def yX12_value : MethodName := ⟨RX12, "value", "(II)I"⟩
abbrev cX12_does : ByteArray := prog_14_method_22_code
def yX12_does : MethodName := ⟨RX12, "does", "(IIII)V"⟩
abbrev cX12_holds : ByteArray := prog_14_method_23_code
def yX12_holds : MethodName := ⟨RX12, "holds", "(I)Z"⟩
abbrev cX12_tells : ByteArray := prog_14_method_24_code
def yX12_tells : MethodName := ⟨RX12, "tells", "(II)V"⟩
abbrev cX12_ends : ByteArray := prog_14_method_25_code
def yX12_ends : MethodName := ⟨RX12, "ends", "(I)V"⟩
abbrev cX12_aborts : ByteArray := prog_14_method_26_code
def yX12_aborts : MethodName := ⟨RX12, "aborts", "(I)I"⟩
abbrev cX12_childOf : ByteArray := prog_14_method_27_code
def yX12_childOf : MethodName := ⟨RX12, "childOf", "(II)I"⟩
abbrev cX12_children : ByteArray := prog_14_method_28_code
def yX12_children : MethodName := ⟨RX12, "children", "(I)I"⟩
abbrev cX12_enters : ByteArray := prog_14_method_29_code
def yX12_enters : MethodName := ⟨RX12, "enters", "(I)I"⟩
abbrev cX12_acts : ByteArray := prog_14_method_30_code
def yX12_acts : MethodName := ⟨RX12, "acts", "(I)I"⟩
abbrev cX12_asks : ByteArray := prog_14_method_31_code
def yX12_asks : MethodName := ⟨RX12, "asks", "(II)I"⟩
abbrev cX12_goesOn : ByteArray := prog_14_method_32_code
def yX12_goesOn : MethodName := ⟨RX12, "goesOn", "(I)I"⟩
abbrev cX12_bits : ByteArray := prog_14_method_33_code
def yX12_bits : MethodName := ⟨RX12, "bits", "(I)I"⟩
abbrev cX12_hears : ByteArray := prog_14_method_34_code
def yX12_hears : MethodName := ⟨RX12, "hears", "(II)I"⟩
abbrev cX12_counts : ByteArray := prog_14_method_35_code
def yX12_counts : MethodName := ⟨RX12, "counts", "(III)I"⟩
abbrev cX12_leaves : ByteArray := prog_14_method_36_code
def yX12_leaves : MethodName := ⟨RX12, "leaves", "(II)V"⟩
abbrev cX12_goes : ByteArray := prog_14_method_37_code
def yX12_goes : MethodName := ⟨RX12, "goes", "(I)I"⟩
abbrev cX12_ticked : ByteArray := prog_14_method_38_code
def yX12_ticked : MethodName := ⟨RX12, "ticked", "(I)I"⟩
abbrev cX12_tick : ByteArray := prog_14_method_39_code
def yX12_tick : MethodName := ⟨RX12, "tick", "(I)I"⟩
abbrev cX12_runs : ByteArray := prog_14_method_40_code
def yX12_runs : MethodName := ⟨RX12, "runs", "(I)I"⟩
abbrev cX12_run : ByteArray := prog_14_method_41_code
def yX12_run : MethodName := ⟨RX12, "run", "(I)I"⟩
abbrev cX12_foresee : ByteArray := prog_14_method_42_code
def yX12_foresee : MethodName := ⟨RX12, "foresee", "()I"⟩
abbrev cX12_ticksToGo : ByteArray := prog_14_method_43_code
def yX12_ticksToGo : MethodName := ⟨RX12, "ticksToGo", "()I"⟩
abbrev cX12_abort : ByteArray := prog_14_method_44_code
def yX12_abort : MethodName := ⟨RX12, "abort", "()I"⟩
abbrev cX12_node : ByteArray := prog_14_method_45_code
def yX12_node : MethodName := ⟨RX12, "node", "(II)I"⟩
abbrev cX12_child : ByteArray := prog_14_method_46_code
def yX12_child : MethodName := ⟨RX12, "child", "(II)I"⟩
abbrev cX12_underWay : ByteArray := prog_14_method_47_code
def yX12_underWay : MethodName := ⟨RX12, "underWay", "(I)I"⟩
abbrev cX12_pending : ByteArray := prog_14_method_48_code
def yX12_pending : MethodName := ⟨RX12, "pending", "()I"⟩
abbrev cX12_trace : ByteArray := prog_14_method_49_code
def yX12_trace : MethodName := ⟨RX12, "trace", "(II)I"⟩
abbrev cX12_count : ByteArray := prog_14_method_50_code
def yX12_count : MethodName := ⟨RX12, "count", "(I)I"⟩
abbrev cX12_writes : ByteArray := prog_14_method_51_code
def yX12_writes : MethodName := ⟨RX12, "writes", "(I)V"⟩
abbrev cX12_letter : ByteArray := prog_14_method_52_code
def yX12_letter : MethodName := ⟨RX12, "letter", "(I)I"⟩
abbrev cX12_writesDeed : ByteArray := prog_14_method_53_code
def yX12_writesDeed : MethodName := ⟨RX12, "writesDeed", "(III)V"⟩
abbrev cX12_writesNode : ByteArray := prog_14_method_54_code
def yX12_writesNode : MethodName := ⟨RX12, "writesNode", "(I)V"⟩
abbrev cX12_write : ByteArray := prog_14_method_55_code
def yX12_write : MethodName := ⟨RX12, "write", "()I"⟩
abbrev cX12_written : ByteArray := prog_14_method_56_code
def yX12_written : MethodName := ⟨RX12, "written", "(I)I"⟩
abbrev cX12_save : ByteArray := prog_14_method_57_code
def yX12_save : MethodName := ⟨RX12, "save", "()I"⟩
abbrev cX12_restore : ByteArray := prog_14_method_58_code
def yX12_restore : MethodName := ⟨RX12, "restore", "()I"⟩
def RJ11 : String := "java/lang/Character"
abbrev cJ11_isValidCodePoint_9a6ad : ByteArray := prog_15_method_11_code
def yJ11_isValidCodePoint_9a6ad : MethodName := ⟨RJ11, "isValidCodePoint", "(I)Z"⟩
abbrev cJ11_highSurrogate_5068e : ByteArray := prog_15_method_28_code
def yJ11_highSurrogate_5068e : MethodName := ⟨RJ11, "highSurrogate", "(I)C"⟩
abbrev cJ11_lowSurrogate_5068e : ByteArray := prog_15_method_29_code
def yJ11_lowSurrogate_5068e : MethodName := ⟨RJ11, "lowSurrogate", "(I)C"⟩
def RJ9 : String := "java/lang/Math"
abbrev cJ9_floorMod_7cf53 : ByteArray := prog_16_method_50_code
def yJ9_floorMod_7cf53 : MethodName := ⟨RJ9, "floorMod", "(II)I"⟩
abbrev cJ9_max_7cf53 : ByteArray := prog_16_method_65_code
def yJ9_max_7cf53 : MethodName := ⟨RJ9, "max", "(II)I"⟩
abbrev cJ9_min_7cf53 : ByteArray := prog_16_method_69_code
def yJ9_min_7cf53 : MethodName := ⟨RJ9, "min", "(II)I"⟩
def RJ0 : String := "java/lang/String"
abbrev cJ0_length_8abf5 : ByteArray := prog_17_method_54_code
def yJ0_length_8abf5 : MethodName := ⟨RJ0, "length", "()I"⟩
abbrev cJ0_charAt_5068e : ByteArray := prog_17_method_56_code
def yJ0_charAt_5068e : MethodName := ⟨RJ0, "charAt", "(I)C"⟩
abbrev cJ0_indexOf_0f7a4 : ByteArray := prog_17_method_79_code
def yJ0_indexOf_0f7a4 : MethodName := ⟨RJ0, "indexOf", "(I)I"⟩
abbrev cJ0_indexOf_7cf53 : ByteArray := prog_17_method_80_code
def yJ0_indexOf_7cf53 : MethodName := ⟨RJ0, "indexOf", "(II)I"⟩
abbrev cJ0_coder_7d493 : ByteArray := prog_17_method_152_code
def yJ0_coder_7d493 : MethodName := ⟨RJ0, "coder", "()B"⟩
abbrev cJ0_isLatin1_aae02 : ByteArray := prog_17_method_154_code
def yJ0_isLatin1_aae02 : MethodName := ⟨RJ0, "isLatin1", "()Z"⟩
abbrev cJ0_checkIndex_df160 : ByteArray := prog_17_method_155_code
def yJ0_checkIndex_df160 : MethodName := ⟨RJ0, "checkIndex", "(II)V"⟩
abbrev cJ0_checkBoundsBeginEnd_23922 : ByteArray := prog_17_method_158_code
def yJ0_checkBoundsBeginEnd_23922 : MethodName := ⟨RJ0, "checkBoundsBeginEnd", "(III)V"⟩
def RJ1 : String := "java/lang/StringLatin1"
abbrev cJ1_charAt_3b067 : ByteArray := prog_18_method_2_code
def yJ1_charAt_3b067 : MethodName := ⟨RJ1, "charAt", "([BI)C"⟩
abbrev cJ1_canEncode_9a6ad : ByteArray := prog_18_method_4_code
def yJ1_canEncode_9a6ad : MethodName := ⟨RJ1, "canEncode", "(I)Z"⟩
abbrev cJ1_indexOf_4cfef : ByteArray := prog_18_method_22_code
def yJ1_indexOf_4cfef : MethodName := ⟨RJ1, "indexOf", "([BIII)I"⟩
abbrev cJ1_indexOfChar_4cfef : ByteArray := prog_18_method_23_code
def yJ1_indexOfChar_4cfef : MethodName := ⟨RJ1, "indexOfChar", "([BIII)I"⟩
def RJ2 : String := "java/lang/StringUTF16"
abbrev cJ2_getChar_3b067 : ByteArray := prog_19_method_5_code
def yJ2_getChar_3b067 : MethodName := ⟨RJ2, "getChar", "([BI)C"⟩
abbrev cJ2_length_9d52b : ByteArray := prog_19_method_6_code
def yJ2_length_9d52b : MethodName := ⟨RJ2, "length", "([B)I"⟩
abbrev cJ2_indexOf_4cfef : ByteArray := prog_19_method_40_code
def yJ2_indexOf_4cfef : MethodName := ⟨RJ2, "indexOf", "([BIII)I"⟩
abbrev cJ2_indexOfChar_4cfef : ByteArray := prog_19_method_47_code
def yJ2_indexOfChar_4cfef : MethodName := ⟨RJ2, "indexOfChar", "([BIII)I"⟩
abbrev cJ2_indexOfCharUnsafe_4cfef : ByteArray := prog_19_method_48_code
def yJ2_indexOfCharUnsafe_4cfef : MethodName := ⟨RJ2, "indexOfCharUnsafe", "([BIII)I"⟩
abbrev cJ2_indexOfSupplementary_4cfef : ByteArray := prog_19_method_49_code
def yJ2_indexOfSupplementary_4cfef : MethodName := ⟨RJ2, "indexOfSupplementary", "([BIII)I"⟩
abbrev cJ2_charAt_3b067 : ByteArray := prog_19_method_83_code
def yJ2_charAt_3b067 : MethodName := ⟨RJ2, "charAt", "([BI)C"⟩
abbrev cJ2_checkIndex_2214a : ByteArray := prog_19_method_91_code
def yJ2_checkIndex_2214a : MethodName := ⟨RJ2, "checkIndex", "(I[B)V"⟩
abbrev cJ2_checkBoundsBeginEnd_d044e : ByteArray := prog_19_method_93_code
def yJ2_checkBoundsBeginEnd_d044e : MethodName := ⟨RJ2, "checkBoundsBeginEnd", "(II[B)V"⟩
def RJ10 : String := "java/lang/System"
def RJ3 : String := "jdk/internal/util/Preconditions"
abbrev cJ3_checkIndex_8e157 : ByteArray := prog_21_method_11_code
def yJ3_checkIndex_8e157 : MethodName := ⟨RJ3, "checkIndex", "(IILjava/util/function/BiFunction;)I"⟩
abbrev cJ3_checkFromToIndex_8c36e : ByteArray := prog_21_method_12_code
def yJ3_checkFromToIndex_8c36e : MethodName := ⟨RJ3, "checkFromToIndex", "(IIILjava/util/function/BiFunction;)I"⟩
def RL : String := "BehaviorRunnerLaw"
abbrev cL_law : ByteArray := code
def yL_law : MethodName := ⟨RL, "law", "([I)Z"⟩
abbrev vwCl : List vw_C := [(RX0, TX0, 1), (RX1, TX1, 5), (RX2, TX2, 11), (RX3, TX3, 10), (RX4, TX4, 14), (RX5, TX5, 3), (RX6, TX6, 3), (RX7, TX7, 2), (RX8, TX8, 2), (RX9, TX9, 2), (RX10, TX10, 2), (RX11, TX11, 10), (RX12, TX12, 39)]
/-- the words of all methods: those of lw_tbl that go along with a call -/
def TBL : List Cond := lw_tbl.filter goodWord
theorem tbl_good : GoodIn TBL TBL := fun w h => ⟨h, good_of_word (List.mem_filter.mp h).2⟩
theorem tbl_in : ∀ w ∈ TBL, w ∈ lw_tbl := fun w h => (List.mem_filter.mp h).1
theorem tb_of {w : Cond} (h : w ∈ tables_1) (g : goodWord w = true) : w ∈ TBL := List.mem_filter.mpr ⟨List.mem_append_right _ h, g⟩
theorem tb1 {w : Cond} (i : Nat) (h : tables_1_1[i]? = some w) : w ∈ tables_1 := List.mem_append_left _ (List.mem_of_getElem? h)
theorem tb2 {w : Cond} (i : Nat) (h : tables_1_2[i]? = some w) : w ∈ tables_1 := List.mem_append_right _ (List.mem_append_left _ (List.mem_of_getElem? h))
theorem tb3 {w : Cond} (i : Nat) (h : tables_1_3[i]? = some w) : w ∈ tables_1 := List.mem_append_right _ (List.mem_append_right _ (List.mem_append_left _ (List.mem_of_getElem? h)))
theorem tb4 {w : Cond} (i : Nat) (h : tables_1_4[i]? = some w) : w ∈ tables_1 := List.mem_append_right _ (List.mem_append_right _ (List.mem_append_right _ (List.mem_append_left _ (List.mem_of_getElem? h))))
theorem tb5 {w : Cond} (i : Nat) (h : tables_1_5[i]? = some w) : w ∈ tables_1 := List.mem_append_right _ (List.mem_append_right _ (List.mem_append_right _ (List.mem_append_right _ (List.mem_of_getElem? h))))
theorem tbp {y : MethodName} {n : Nat} (h : (y, n) ∈ lw_privs) (g : goodWord (.selects y.cls y y) = true) : Cond.selects y.cls y y ∈ TBL := List.mem_filter.mpr ⟨List.mem_append_left _ (List.mem_map.mpr ⟨_, h, rfl⟩), g⟩
theorem lwp1 {q : MethodName × Nat} (i : Nat) (h : lw_privs_1[i]? = some q) : q ∈ lw_privs := List.mem_append_left _ (List.mem_of_getElem? h)
theorem lwp2 {q : MethodName × Nat} (i : Nat) (h : lw_privs_2[i]? = some q) : q ∈ lw_privs := List.mem_append_right _ (List.mem_append_left _ (List.mem_of_getElem? h))
theorem lwp3 {q : MethodName × Nat} (i : Nat) (h : lw_privs_3[i]? = some q) : q ∈ lw_privs := List.mem_append_right _ (List.mem_append_right _ (List.mem_append_left _ (List.mem_of_getElem? h)))
theorem lwp4 {q : MethodName × Nat} (i : Nat) (h : lw_privs_4[i]? = some q) : q ∈ lw_privs := List.mem_append_right _ (List.mem_append_right _ (List.mem_append_right _ (List.mem_of_getElem? h)))
def isNest : Cond → Bool
  | .fieldLinkNest _ _ _ _ _ _ => true
  | .methodLinkNest _ _ _ _ => true
  | _ => false
theorem inT0 : ∀ w ∈ u_ws RX0 TX0 1, w ∈ TBL := List.forall_mem_cons.mpr ⟨(tb_of (tb1 58 rfl) rfl), fun _ h => absurd h List.not_mem_nil⟩
theorem inT1 : ∀ w ∈ u_ws RX1 TX1 5, w ∈ TBL := List.forall_mem_cons.mpr ⟨(tb_of (tb1 239 rfl) rfl), List.forall_mem_cons.mpr ⟨(tb_of (tb2 1 rfl) rfl), List.forall_mem_cons.mpr ⟨(tb_of (tb2 3 rfl) rfl), List.forall_mem_cons.mpr ⟨(tb_of (tb2 5 rfl) rfl), List.forall_mem_cons.mpr ⟨(tb_of (tb2 7 rfl) rfl), fun _ h => absurd h List.not_mem_nil⟩⟩⟩⟩⟩
theorem inT2 : ∀ w ∈ u_ws RX2 TX2 11, w ∈ TBL := List.forall_mem_cons.mpr ⟨(tb_of (tb1 92 rfl) rfl), List.forall_mem_cons.mpr ⟨(tb_of (tb1 94 rfl) rfl), List.forall_mem_cons.mpr ⟨(tb_of (tb1 96 rfl) rfl), List.forall_mem_cons.mpr ⟨(tb_of (tb1 98 rfl) rfl), List.forall_mem_cons.mpr ⟨(tb_of (tb1 100 rfl) rfl), List.forall_mem_cons.mpr ⟨(tb_of (tb1 102 rfl) rfl), List.forall_mem_cons.mpr ⟨(tb_of (tb1 104 rfl) rfl), List.forall_mem_cons.mpr ⟨(tb_of (tb1 106 rfl) rfl), List.forall_mem_cons.mpr ⟨(tb_of (tb1 108 rfl) rfl), List.forall_mem_cons.mpr ⟨(tb_of (tb1 110 rfl) rfl), List.forall_mem_cons.mpr ⟨(tb_of (tb1 112 rfl) rfl), fun _ h => absurd h List.not_mem_nil⟩⟩⟩⟩⟩⟩⟩⟩⟩⟩⟩
theorem inT3 : ∀ w ∈ u_ws RX3 TX3 10, w ∈ TBL := List.forall_mem_cons.mpr ⟨(tb_of (tb1 170 rfl) rfl), List.forall_mem_cons.mpr ⟨(tb_of (tb1 172 rfl) rfl), List.forall_mem_cons.mpr ⟨(tb_of (tb1 174 rfl) rfl), List.forall_mem_cons.mpr ⟨(tb_of (tb1 176 rfl) rfl), List.forall_mem_cons.mpr ⟨(tb_of (tb1 178 rfl) rfl), List.forall_mem_cons.mpr ⟨(tb_of (tb1 180 rfl) rfl), List.forall_mem_cons.mpr ⟨(tb_of (tb1 182 rfl) rfl), List.forall_mem_cons.mpr ⟨(tb_of (tb1 184 rfl) rfl), List.forall_mem_cons.mpr ⟨(tb_of (tb1 186 rfl) rfl), List.forall_mem_cons.mpr ⟨(tb_of (tb1 188 rfl) rfl), fun _ h => absurd h List.not_mem_nil⟩⟩⟩⟩⟩⟩⟩⟩⟩⟩
theorem inT4 : ∀ w ∈ u_ws RX4 TX4 14, w ∈ TBL := List.forall_mem_cons.mpr ⟨(tb_of (tb2 62 rfl) rfl), List.forall_mem_cons.mpr ⟨(tb_of (tb2 64 rfl) rfl), List.forall_mem_cons.mpr ⟨(tb_of (tb2 66 rfl) rfl), List.forall_mem_cons.mpr ⟨(tb_of (tb2 68 rfl) rfl), List.forall_mem_cons.mpr ⟨(tb_of (tb2 70 rfl) rfl), List.forall_mem_cons.mpr ⟨(tb_of (tb2 72 rfl) rfl), List.forall_mem_cons.mpr ⟨(tb_of (tb2 74 rfl) rfl), List.forall_mem_cons.mpr ⟨(tb_of (tb2 76 rfl) rfl), List.forall_mem_cons.mpr ⟨(tb_of (tb2 78 rfl) rfl), List.forall_mem_cons.mpr ⟨(tb_of (tb2 80 rfl) rfl), List.forall_mem_cons.mpr ⟨(tb_of (tb2 82 rfl) rfl), List.forall_mem_cons.mpr ⟨(tb_of (tb2 84 rfl) rfl), List.forall_mem_cons.mpr ⟨(tb_of (tb2 86 rfl) rfl), List.forall_mem_cons.mpr ⟨(tb_of (tb2 88 rfl) rfl), fun _ h => absurd h List.not_mem_nil⟩⟩⟩⟩⟩⟩⟩⟩⟩⟩⟩⟩⟩⟩
theorem inT5 : ∀ w ∈ u_ws RX5 TX5 3, w ∈ TBL := List.forall_mem_cons.mpr ⟨(tb_of (tb2 152 rfl) rfl), List.forall_mem_cons.mpr ⟨(tb_of (tb2 154 rfl) rfl), List.forall_mem_cons.mpr ⟨(tb_of (tb2 156 rfl) rfl), fun _ h => absurd h List.not_mem_nil⟩⟩⟩
theorem inT6 : ∀ w ∈ u_ws RX6 TX6 3, w ∈ TBL := List.forall_mem_cons.mpr ⟨(tb_of (tb1 194 rfl) rfl), List.forall_mem_cons.mpr ⟨(tb_of (tb1 196 rfl) rfl), List.forall_mem_cons.mpr ⟨(tb_of (tb1 198 rfl) rfl), fun _ h => absurd h List.not_mem_nil⟩⟩⟩
theorem inT7 : ∀ w ∈ u_ws RX7 TX7 2, w ∈ TBL := List.forall_mem_cons.mpr ⟨(tb_of (tb1 39 rfl) rfl), List.forall_mem_cons.mpr ⟨(tb_of (tb1 41 rfl) rfl), fun _ h => absurd h List.not_mem_nil⟩⟩
theorem inT8 : ∀ w ∈ u_ws RX8 TX8 2, w ∈ TBL := List.forall_mem_cons.mpr ⟨(tb_of (tb2 95 rfl) rfl), List.forall_mem_cons.mpr ⟨(tb_of (tb2 97 rfl) rfl), fun _ h => absurd h List.not_mem_nil⟩⟩
theorem inT9 : ∀ w ∈ u_ws RX9 TX9 2, w ∈ TBL := List.forall_mem_cons.mpr ⟨(tb_of (tb1 119 rfl) rfl), List.forall_mem_cons.mpr ⟨(tb_of (tb1 121 rfl) rfl), fun _ h => absurd h List.not_mem_nil⟩⟩
theorem inT10 : ∀ w ∈ u_ws RX10 TX10 2, w ∈ TBL := List.forall_mem_cons.mpr ⟨(tb_of (tb4 71 rfl) rfl), List.forall_mem_cons.mpr ⟨(tb_of (tb4 73 rfl) rfl), fun _ h => absurd h List.not_mem_nil⟩⟩
theorem inT11 : ∀ w ∈ u_ws RX11 TX11 10, w ∈ TBL := List.forall_mem_cons.mpr ⟨(tb_of (tb2 110 rfl) rfl), List.forall_mem_cons.mpr ⟨(tb_of (tb2 112 rfl) rfl), List.forall_mem_cons.mpr ⟨(tb_of (tb2 114 rfl) rfl), List.forall_mem_cons.mpr ⟨(tb_of (tb2 116 rfl) rfl), List.forall_mem_cons.mpr ⟨(tb_of (tb2 118 rfl) rfl), List.forall_mem_cons.mpr ⟨(tb_of (tb2 120 rfl) rfl), List.forall_mem_cons.mpr ⟨(tb_of (tb2 122 rfl) rfl), List.forall_mem_cons.mpr ⟨(tb_of (tb2 124 rfl) rfl), List.forall_mem_cons.mpr ⟨(tb_of (tb2 126 rfl) rfl), List.forall_mem_cons.mpr ⟨(tb_of (tb2 128 rfl) rfl), fun _ h => absurd h List.not_mem_nil⟩⟩⟩⟩⟩⟩⟩⟩⟩⟩
theorem inT12 : ∀ w ∈ u_ws RX12 TX12 39, w ∈ TBL := List.forall_mem_cons.mpr ⟨(tb_of (tb4 167 rfl) rfl), List.forall_mem_cons.mpr ⟨(tb_of (tb4 169 rfl) rfl), List.forall_mem_cons.mpr ⟨(tb_of (tb4 171 rfl) rfl), List.forall_mem_cons.mpr ⟨(tb_of (tb4 173 rfl) rfl), List.forall_mem_cons.mpr ⟨(tb_of (tb4 175 rfl) rfl), List.forall_mem_cons.mpr ⟨(tb_of (tb4 177 rfl) rfl), List.forall_mem_cons.mpr ⟨(tb_of (tb4 179 rfl) rfl), List.forall_mem_cons.mpr ⟨(tb_of (tb4 181 rfl) rfl), List.forall_mem_cons.mpr ⟨(tb_of (tb4 183 rfl) rfl), List.forall_mem_cons.mpr ⟨(tb_of (tb4 185 rfl) rfl), List.forall_mem_cons.mpr ⟨(tb_of (tb4 187 rfl) rfl), List.forall_mem_cons.mpr ⟨(tb_of (tb4 189 rfl) rfl), List.forall_mem_cons.mpr ⟨(tb_of (tb4 191 rfl) rfl), List.forall_mem_cons.mpr ⟨(tb_of (tb4 193 rfl) rfl), List.forall_mem_cons.mpr ⟨(tb_of (tb4 195 rfl) rfl), List.forall_mem_cons.mpr ⟨(tb_of (tb4 197 rfl) rfl), List.forall_mem_cons.mpr ⟨(tb_of (tb4 199 rfl) rfl), List.forall_mem_cons.mpr ⟨(tb_of (tb4 201 rfl) rfl), List.forall_mem_cons.mpr ⟨(tb_of (tb4 203 rfl) rfl), List.forall_mem_cons.mpr ⟨(tb_of (tb4 205 rfl) rfl), List.forall_mem_cons.mpr ⟨(tb_of (tb4 207 rfl) rfl), List.forall_mem_cons.mpr ⟨(tb_of (tb4 209 rfl) rfl), List.forall_mem_cons.mpr ⟨(tb_of (tb4 211 rfl) rfl), List.forall_mem_cons.mpr ⟨(tb_of (tb4 213 rfl) rfl), List.forall_mem_cons.mpr ⟨(tb_of (tb4 215 rfl) rfl), List.forall_mem_cons.mpr ⟨(tb_of (tb4 217 rfl) rfl), List.forall_mem_cons.mpr ⟨(tb_of (tb4 219 rfl) rfl), List.forall_mem_cons.mpr ⟨(tb_of (tb4 221 rfl) rfl), List.forall_mem_cons.mpr ⟨(tb_of (tb4 223 rfl) rfl), List.forall_mem_cons.mpr ⟨(tb_of (tb4 225 rfl) rfl), List.forall_mem_cons.mpr ⟨(tb_of (tb4 227 rfl) rfl), List.forall_mem_cons.mpr ⟨(tb_of (tb4 229 rfl) rfl), List.forall_mem_cons.mpr ⟨(tb_of (tb4 231 rfl) rfl), List.forall_mem_cons.mpr ⟨(tb_of (tb4 233 rfl) rfl), List.forall_mem_cons.mpr ⟨(tb_of (tb4 235 rfl) rfl), List.forall_mem_cons.mpr ⟨(tb_of (tb4 237 rfl) rfl), List.forall_mem_cons.mpr ⟨(tb_of (tb4 239 rfl) rfl), List.forall_mem_cons.mpr ⟨(tb_of (tb5 1 rfl) rfl), List.forall_mem_cons.mpr ⟨(tb_of (tb5 3 rfl) rfl), fun _ h => absurd h List.not_mem_nil⟩⟩⟩⟩⟩⟩⟩⟩⟩⟩⟩⟩⟩⟩⟩⟩⟩⟩⟩⟩⟩⟩⟩⟩⟩⟩⟩⟩⟩⟩⟩⟩⟩⟩⟩⟩⟩⟩⟩
/-- a field's link in a constant pool: class c of vwCl, its field k -/
def FLk (own : String) (idx c k : Nat) : Prop := ∃ (C : String) (T : u_T) (N : Nat), vwCl[c]? = some (C, T, N) ∧ k < N ∧ (∀ w ∈ u_ws C T N, w ∈ TBL) ∧ (T k).1 = C ∧ (Cond.fieldLink own idx C (T k).2.1 (T k).2.2.1 ∈ TBL ∨ ∃ host, Cond.fieldLinkNest own idx C (T k).2.1 (T k).2.2.1 host ∈ tables_1)
/-- a field that is written outside of constructors, its type -/
def FLw (c k : Nat) (ty : FieldType) : Prop := ∃ (C : String) (T : u_T) (N : Nat) (ty0 : Nat → FieldType), vwCl[c]? = some (C, T, N) ∧ (∀ k, k < N → parseFieldDescriptor (T k).2.2.1 = some (ty0 k)) ∧ (∀ a, a < N → ∀ b, b < N → a ≠ b → (T a).2.1 ≠ (T b).2.1) ∧ (T k).2.2.2 = false ∧ parseFieldDescriptor (T k).2.2.1 = some ty
theorem fl7_9 : FLk RX7 9 7 0 := ⟨_, _, _, rfl, by decide, inT7, rfl, Or.inl (tb_of (tb1 35 rfl) rfl)⟩
theorem fl7_15 : FLk RX7 15 7 1 := ⟨_, _, _, rfl, by decide, inT7, rfl, Or.inl (tb_of (tb1 36 rfl) rfl)⟩
theorem fl5_32 : FLk RX5 32 7 1 := ⟨_, _, _, rfl, by decide, inT7, rfl, Or.inr ⟨_, (tb1 37 rfl)⟩⟩
theorem fl11_60 : FLk RX11 60 7 1 := ⟨_, _, _, rfl, by decide, inT7, rfl, Or.inr ⟨_, (tb1 38 rfl)⟩⟩
theorem fl0_9 : FLk RX0 9 0 0 := ⟨_, _, _, rfl, by decide, inT0, rfl, Or.inl (tb_of (tb1 57 rfl) rfl)⟩
theorem fl2_9 : FLk RX2 9 2 0 := ⟨_, _, _, rfl, by decide, inT2, rfl, Or.inl (tb_of (tb1 68 rfl) rfl)⟩
theorem fl9_25 : FLk RX9 25 2 0 := ⟨_, _, _, rfl, by decide, inT2, rfl, Or.inr ⟨_, (tb1 69 rfl)⟩⟩
theorem fl11_120 : FLk RX11 120 2 0 := ⟨_, _, _, rfl, by decide, inT2, rfl, Or.inr ⟨_, (tb1 70 rfl)⟩⟩
theorem fl2_15 : FLk RX2 15 2 1 := ⟨_, _, _, rfl, by decide, inT2, rfl, Or.inl (tb_of (tb1 71 rfl) rfl)⟩
theorem fl11_186 : FLk RX11 186 2 1 := ⟨_, _, _, rfl, by decide, inT2, rfl, Or.inr ⟨_, (tb1 72 rfl)⟩⟩
theorem fl2_19 : FLk RX2 19 2 2 := ⟨_, _, _, rfl, by decide, inT2, rfl, Or.inl (tb_of (tb1 73 rfl) rfl)⟩
theorem fl11_189 : FLk RX11 189 2 2 := ⟨_, _, _, rfl, by decide, inT2, rfl, Or.inr ⟨_, (tb1 74 rfl)⟩⟩
theorem fl2_22 : FLk RX2 22 2 3 := ⟨_, _, _, rfl, by decide, inT2, rfl, Or.inl (tb_of (tb1 75 rfl) rfl)⟩
theorem fl11_190 : FLk RX11 190 2 3 := ⟨_, _, _, rfl, by decide, inT2, rfl, Or.inr ⟨_, (tb1 76 rfl)⟩⟩
theorem fl2_25 : FLk RX2 25 2 4 := ⟨_, _, _, rfl, by decide, inT2, rfl, Or.inl (tb_of (tb1 77 rfl) rfl)⟩
theorem fl9_108 : FLk RX9 108 2 4 := ⟨_, _, _, rfl, by decide, inT2, rfl, Or.inr ⟨_, (tb1 78 rfl)⟩⟩
theorem fl11_191 : FLk RX11 191 2 4 := ⟨_, _, _, rfl, by decide, inT2, rfl, Or.inr ⟨_, (tb1 79 rfl)⟩⟩
theorem fl2_28 : FLk RX2 28 2 5 := ⟨_, _, _, rfl, by decide, inT2, rfl, Or.inl (tb_of (tb1 80 rfl) rfl)⟩
theorem fl9_85 : FLk RX9 85 2 5 := ⟨_, _, _, rfl, by decide, inT2, rfl, Or.inr ⟨_, (tb1 81 rfl)⟩⟩
theorem fl11_113 : FLk RX11 113 2 5 := ⟨_, _, _, rfl, by decide, inT2, rfl, Or.inr ⟨_, (tb1 82 rfl)⟩⟩
theorem fl2_31 : FLk RX2 31 2 6 := ⟨_, _, _, rfl, by decide, inT2, rfl, Or.inl (tb_of (tb1 83 rfl) rfl)⟩
theorem fl9_102 : FLk RX9 102 2 6 := ⟨_, _, _, rfl, by decide, inT2, rfl, Or.inr ⟨_, (tb1 84 rfl)⟩⟩
theorem fl11_192 : FLk RX11 192 2 6 := ⟨_, _, _, rfl, by decide, inT2, rfl, Or.inr ⟨_, (tb1 85 rfl)⟩⟩
theorem fl2_34 : FLk RX2 34 2 7 := ⟨_, _, _, rfl, by decide, inT2, rfl, Or.inl (tb_of (tb1 86 rfl) rfl)⟩
theorem fl9_50 : FLk RX9 50 2 7 := ⟨_, _, _, rfl, by decide, inT2, rfl, Or.inr ⟨_, (tb1 87 rfl)⟩⟩
theorem fl11_198 : FLk RX11 198 2 7 := ⟨_, _, _, rfl, by decide, inT2, rfl, Or.inr ⟨_, (tb1 88 rfl)⟩⟩
theorem fl2_37 : FLk RX2 37 2 8 := ⟨_, _, _, rfl, by decide, inT2, rfl, Or.inl (tb_of (tb1 89 rfl) rfl)⟩
theorem fl2_40 : FLk RX2 40 2 9 := ⟨_, _, _, rfl, by decide, inT2, rfl, Or.inl (tb_of (tb1 90 rfl) rfl)⟩
theorem fl2_44 : FLk RX2 44 2 10 := ⟨_, _, _, rfl, by decide, inT2, rfl, Or.inl (tb_of (tb1 91 rfl) rfl)⟩
theorem fl9_12 : FLk RX9 12 9 0 := ⟨_, _, _, rfl, by decide, inT9, rfl, Or.inl (tb_of (tb1 115 rfl) rfl)⟩
theorem fl11_26 : FLk RX11 26 9 0 := ⟨_, _, _, rfl, by decide, inT9, rfl, Or.inr ⟨_, (tb1 116 rfl)⟩⟩
theorem fl9_21 : FLk RX9 21 9 1 := ⟨_, _, _, rfl, by decide, inT9, rfl, Or.inl (tb_of (tb1 117 rfl) rfl)⟩
theorem fl11_31 : FLk RX11 31 9 1 := ⟨_, _, _, rfl, by decide, inT9, rfl, Or.inr ⟨_, (tb1 118 rfl)⟩⟩
theorem fl3_9 : FLk RX3 9 3 0 := ⟨_, _, _, rfl, by decide, inT3, rfl, Or.inl (tb_of (tb1 141 rfl) rfl)⟩
theorem fl9_64 : FLk RX9 64 3 0 := ⟨_, _, _, rfl, by decide, inT3, rfl, Or.inr ⟨_, (tb1 142 rfl)⟩⟩
theorem fl8_40 : FLk RX8 40 3 0 := ⟨_, _, _, rfl, by decide, inT3, rfl, Or.inr ⟨_, (tb1 143 rfl)⟩⟩
theorem fl11_140 : FLk RX11 140 3 0 := ⟨_, _, _, rfl, by decide, inT3, rfl, Or.inr ⟨_, (tb1 144 rfl)⟩⟩
theorem fl3_15 : FLk RX3 15 3 1 := ⟨_, _, _, rfl, by decide, inT3, rfl, Or.inl (tb_of (tb1 145 rfl) rfl)⟩
theorem fl9_144 : FLk RX9 144 3 1 := ⟨_, _, _, rfl, by decide, inT3, rfl, Or.inr ⟨_, (tb1 146 rfl)⟩⟩
theorem fl3_19 : FLk RX3 19 3 2 := ⟨_, _, _, rfl, by decide, inT3, rfl, Or.inl (tb_of (tb1 147 rfl) rfl)⟩
theorem fl9_127 : FLk RX9 127 3 2 := ⟨_, _, _, rfl, by decide, inT3, rfl, Or.inr ⟨_, (tb1 148 rfl)⟩⟩
theorem fl3_23 : FLk RX3 23 3 3 := ⟨_, _, _, rfl, by decide, inT3, rfl, Or.inl (tb_of (tb1 149 rfl) rfl)⟩
theorem fl9_156 : FLk RX9 156 3 3 := ⟨_, _, _, rfl, by decide, inT3, rfl, Or.inr ⟨_, (tb1 150 rfl)⟩⟩
theorem fl3_26 : FLk RX3 26 3 4 := ⟨_, _, _, rfl, by decide, inT3, rfl, Or.inl (tb_of (tb1 151 rfl) rfl)⟩
theorem fl0_27 : FLk RX0 27 3 4 := ⟨_, _, _, rfl, by decide, inT3, rfl, Or.inr ⟨_, (tb1 152 rfl)⟩⟩
theorem fl9_153 : FLk RX9 153 3 4 := ⟨_, _, _, rfl, by decide, inT3, rfl, Or.inr ⟨_, (tb1 153 rfl)⟩⟩
theorem fl11_164 : FLk RX11 164 3 4 := ⟨_, _, _, rfl, by decide, inT3, rfl, Or.inr ⟨_, (tb1 154 rfl)⟩⟩
theorem fl3_29 : FLk RX3 29 3 5 := ⟨_, _, _, rfl, by decide, inT3, rfl, Or.inl (tb_of (tb1 155 rfl) rfl)⟩
theorem fl9_150 : FLk RX9 150 3 5 := ⟨_, _, _, rfl, by decide, inT3, rfl, Or.inr ⟨_, (tb1 156 rfl)⟩⟩
theorem fl11_148 : FLk RX11 148 3 5 := ⟨_, _, _, rfl, by decide, inT3, rfl, Or.inr ⟨_, (tb1 157 rfl)⟩⟩
theorem fl3_32 : FLk RX3 32 3 6 := ⟨_, _, _, rfl, by decide, inT3, rfl, Or.inl (tb_of (tb1 158 rfl) rfl)⟩
theorem fl9_76 : FLk RX9 76 3 6 := ⟨_, _, _, rfl, by decide, inT3, rfl, Or.inr ⟨_, (tb1 159 rfl)⟩⟩
theorem fl11_151 : FLk RX11 151 3 6 := ⟨_, _, _, rfl, by decide, inT3, rfl, Or.inr ⟨_, (tb1 160 rfl)⟩⟩
theorem fl3_35 : FLk RX3 35 3 7 := ⟨_, _, _, rfl, by decide, inT3, rfl, Or.inl (tb_of (tb1 161 rfl) rfl)⟩
theorem fl9_79 : FLk RX9 79 3 7 := ⟨_, _, _, rfl, by decide, inT3, rfl, Or.inr ⟨_, (tb1 162 rfl)⟩⟩
theorem fl11_154 : FLk RX11 154 3 7 := ⟨_, _, _, rfl, by decide, inT3, rfl, Or.inr ⟨_, (tb1 163 rfl)⟩⟩
theorem fl3_38 : FLk RX3 38 3 8 := ⟨_, _, _, rfl, by decide, inT3, rfl, Or.inl (tb_of (tb1 164 rfl) rfl)⟩
theorem fl9_82 : FLk RX9 82 3 8 := ⟨_, _, _, rfl, by decide, inT3, rfl, Or.inr ⟨_, (tb1 165 rfl)⟩⟩
theorem fl11_157 : FLk RX11 157 3 8 := ⟨_, _, _, rfl, by decide, inT3, rfl, Or.inr ⟨_, (tb1 166 rfl)⟩⟩
theorem fl3_41 : FLk RX3 41 3 9 := ⟨_, _, _, rfl, by decide, inT3, rfl, Or.inl (tb_of (tb1 167 rfl) rfl)⟩
theorem fl9_105 : FLk RX9 105 3 9 := ⟨_, _, _, rfl, by decide, inT3, rfl, Or.inr ⟨_, (tb1 168 rfl)⟩⟩
theorem fl11_158 : FLk RX11 158 3 9 := ⟨_, _, _, rfl, by decide, inT3, rfl, Or.inr ⟨_, (tb1 169 rfl)⟩⟩
theorem fl6_11 : FLk RX6 11 6 0 := ⟨_, _, _, rfl, by decide, inT6, rfl, Or.inl (tb_of (tb1 191 rfl) rfl)⟩
theorem fl6_20 : FLk RX6 20 6 1 := ⟨_, _, _, rfl, by decide, inT6, rfl, Or.inl (tb_of (tb1 192 rfl) rfl)⟩
theorem fl6_27 : FLk RX6 27 6 2 := ⟨_, _, _, rfl, by decide, inT6, rfl, Or.inl (tb_of (tb1 193 rfl) rfl)⟩
theorem fl1_7 : FLk RX1 7 1 0 := ⟨_, _, _, rfl, by decide, inT1, rfl, Or.inl (tb_of (tb1 220 rfl) rfl)⟩
theorem fl10_74 : FLk RX10 74 1 0 := ⟨_, _, _, rfl, by decide, inT1, rfl, Or.inr ⟨_, (tb1 221 rfl)⟩⟩
theorem fl9_93 : FLk RX9 93 1 0 := ⟨_, _, _, rfl, by decide, inT1, rfl, Or.inr ⟨_, (tb1 222 rfl)⟩⟩
theorem fl5_101 : FLk RX5 101 1 0 := ⟨_, _, _, rfl, by decide, inT1, rfl, Or.inr ⟨_, (tb1 223 rfl)⟩⟩
theorem fl1_13 : FLk RX1 13 1 1 := ⟨_, _, _, rfl, by decide, inT1, rfl, Or.inl (tb_of (tb1 224 rfl) rfl)⟩
theorem fl0_39 : FLk RX0 39 1 1 := ⟨_, _, _, rfl, by decide, inT1, rfl, Or.inr ⟨_, (tb1 225 rfl)⟩⟩
theorem fl10_101 : FLk RX10 101 1 1 := ⟨_, _, _, rfl, by decide, inT1, rfl, Or.inr ⟨_, (tb1 226 rfl)⟩⟩
theorem fl5_107 : FLk RX5 107 1 1 := ⟨_, _, _, rfl, by decide, inT1, rfl, Or.inr ⟨_, (tb1 227 rfl)⟩⟩
theorem fl1_17 : FLk RX1 17 1 2 := ⟨_, _, _, rfl, by decide, inT1, rfl, Or.inl (tb_of (tb1 228 rfl) rfl)⟩
theorem fl0_46 : FLk RX0 46 1 2 := ⟨_, _, _, rfl, by decide, inT1, rfl, Or.inr ⟨_, (tb1 229 rfl)⟩⟩
theorem fl10_104 : FLk RX10 104 1 2 := ⟨_, _, _, rfl, by decide, inT1, rfl, Or.inr ⟨_, (tb1 230 rfl)⟩⟩
theorem fl5_114 : FLk RX5 114 1 2 := ⟨_, _, _, rfl, by decide, inT1, rfl, Or.inr ⟨_, (tb1 231 rfl)⟩⟩
theorem fl1_21 : FLk RX1 21 1 3 := ⟨_, _, _, rfl, by decide, inT1, rfl, Or.inl (tb_of (tb1 232 rfl) rfl)⟩
theorem fl0_50 : FLk RX0 50 1 3 := ⟨_, _, _, rfl, by decide, inT1, rfl, Or.inr ⟨_, (tb1 233 rfl)⟩⟩
theorem fl10_108 : FLk RX10 108 1 3 := ⟨_, _, _, rfl, by decide, inT1, rfl, Or.inr ⟨_, (tb1 234 rfl)⟩⟩
theorem fl5_118 : FLk RX5 118 1 3 := ⟨_, _, _, rfl, by decide, inT1, rfl, Or.inr ⟨_, (tb1 235 rfl)⟩⟩
theorem fl1_24 : FLk RX1 24 1 4 := ⟨_, _, _, rfl, by decide, inT1, rfl, Or.inl (tb_of (tb1 236 rfl) rfl)⟩
theorem fl0_33 : FLk RX0 33 1 4 := ⟨_, _, _, rfl, by decide, inT1, rfl, Or.inr ⟨_, (tb1 237 rfl)⟩⟩
theorem fl5_123 : FLk RX5 123 1 4 := ⟨_, _, _, rfl, by decide, inT1, rfl, Or.inr ⟨_, (tb1 238 rfl)⟩⟩
theorem fl4_60 : FLk RX4 60 4 0 := ⟨_, _, _, rfl, by decide, inT4, rfl, Or.inl (tb_of (tb2 12 rfl) rfl)⟩
theorem fl9_57 : FLk RX9 57 4 0 := ⟨_, _, _, rfl, by decide, inT4, rfl, Or.inr ⟨_, (tb2 13 rfl)⟩⟩
theorem fl2_59 : FLk RX2 59 4 0 := ⟨_, _, _, rfl, by decide, inT4, rfl, Or.inr ⟨_, (tb2 14 rfl)⟩⟩
theorem fl11_134 : FLk RX11 134 4 0 := ⟨_, _, _, rfl, by decide, inT4, rfl, Or.inr ⟨_, (tb2 15 rfl)⟩⟩
theorem fl4_12 : FLk RX4 12 4 1 := ⟨_, _, _, rfl, by decide, inT4, rfl, Or.inl (tb_of (tb2 16 rfl) rfl)⟩
theorem fl10_70 : FLk RX10 70 4 1 := ⟨_, _, _, rfl, by decide, inT4, rfl, Or.inr ⟨_, (tb2 17 rfl)⟩⟩
theorem fl5_63 : FLk RX5 63 4 1 := ⟨_, _, _, rfl, by decide, inT4, rfl, Or.inr ⟨_, (tb2 18 rfl)⟩⟩
theorem fl9_120 : FLk RX9 120 4 1 := ⟨_, _, _, rfl, by decide, inT4, rfl, Or.inr ⟨_, (tb2 19 rfl)⟩⟩
theorem fl4_18 : FLk RX4 18 4 2 := ⟨_, _, _, rfl, by decide, inT4, rfl, Or.inl (tb_of (tb2 20 rfl) rfl)⟩
theorem fl10_84 : FLk RX10 84 4 2 := ⟨_, _, _, rfl, by decide, inT4, rfl, Or.inr ⟨_, (tb2 21 rfl)⟩⟩
theorem fl9_89 : FLk RX9 89 4 2 := ⟨_, _, _, rfl, by decide, inT4, rfl, Or.inr ⟨_, (tb2 22 rfl)⟩⟩
theorem fl5_93 : FLk RX5 93 4 2 := ⟨_, _, _, rfl, by decide, inT4, rfl, Or.inr ⟨_, (tb2 23 rfl)⟩⟩
theorem fl4_24 : FLk RX4 24 4 3 := ⟨_, _, _, rfl, by decide, inT4, rfl, Or.inl (tb_of (tb2 24 rfl) rfl)⟩
theorem fl6_38 : FLk RX6 38 4 3 := ⟨_, _, _, rfl, by decide, inT4, rfl, Or.inr ⟨_, (tb2 25 rfl)⟩⟩
theorem fl0_21 : FLk RX0 21 4 3 := ⟨_, _, _, rfl, by decide, inT4, rfl, Or.inr ⟨_, (tb2 26 rfl)⟩⟩
theorem fl9_60 : FLk RX9 60 4 3 := ⟨_, _, _, rfl, by decide, inT4, rfl, Or.inr ⟨_, (tb2 27 rfl)⟩⟩
theorem fl8_36 : FLk RX8 36 4 3 := ⟨_, _, _, rfl, by decide, inT4, rfl, Or.inr ⟨_, (tb2 28 rfl)⟩⟩
theorem fl11_124 : FLk RX11 124 4 3 := ⟨_, _, _, rfl, by decide, inT4, rfl, Or.inr ⟨_, (tb2 29 rfl)⟩⟩
theorem fl4_28 : FLk RX4 28 4 4 := ⟨_, _, _, rfl, by decide, inT4, rfl, Or.inl (tb_of (tb2 30 rfl) rfl)⟩
theorem fl10_37 : FLk RX10 37 4 4 := ⟨_, _, _, rfl, by decide, inT4, rfl, Or.inr ⟨_, (tb2 31 rfl)⟩⟩
theorem fl5_50 : FLk RX5 50 4 4 := ⟨_, _, _, rfl, by decide, inT4, rfl, Or.inr ⟨_, (tb2 32 rfl)⟩⟩
theorem fl9_113 : FLk RX9 113 4 4 := ⟨_, _, _, rfl, by decide, inT4, rfl, Or.inr ⟨_, (tb2 33 rfl)⟩⟩
theorem fl11_128 : FLk RX11 128 4 4 := ⟨_, _, _, rfl, by decide, inT4, rfl, Or.inr ⟨_, (tb2 34 rfl)⟩⟩
theorem fl4_32 : FLk RX4 32 4 5 := ⟨_, _, _, rfl, by decide, inT4, rfl, Or.inl (tb_of (tb2 35 rfl) rfl)⟩
theorem fl10_63 : FLk RX10 63 4 5 := ⟨_, _, _, rfl, by decide, inT4, rfl, Or.inr ⟨_, (tb2 36 rfl)⟩⟩
theorem fl9_147 : FLk RX9 147 4 5 := ⟨_, _, _, rfl, by decide, inT4, rfl, Or.inr ⟨_, (tb2 37 rfl)⟩⟩
theorem fl5_86 : FLk RX5 86 4 5 := ⟨_, _, _, rfl, by decide, inT4, rfl, Or.inr ⟨_, (tb2 38 rfl)⟩⟩
theorem fl11_145 : FLk RX11 145 4 5 := ⟨_, _, _, rfl, by decide, inT4, rfl, Or.inr ⟨_, (tb2 39 rfl)⟩⟩
theorem fl4_35 : FLk RX4 35 4 6 := ⟨_, _, _, rfl, by decide, inT4, rfl, Or.inl (tb_of (tb2 40 rfl) rfl)⟩
theorem fl11_161 : FLk RX11 161 4 6 := ⟨_, _, _, rfl, by decide, inT4, rfl, Or.inr ⟨_, (tb2 41 rfl)⟩⟩
theorem fl4_38 : FLk RX4 38 4 7 := ⟨_, _, _, rfl, by decide, inT4, rfl, Or.inl (tb_of (tb2 42 rfl) rfl)⟩
theorem fl11_137 : FLk RX11 137 4 7 := ⟨_, _, _, rfl, by decide, inT4, rfl, Or.inr ⟨_, (tb2 43 rfl)⟩⟩
theorem fl9_178 : FLk RX9 178 4 7 := ⟨_, _, _, rfl, by decide, inT4, rfl, Or.inr ⟨_, (tb2 44 rfl)⟩⟩
theorem fl4_41 : FLk RX4 41 4 8 := ⟨_, _, _, rfl, by decide, inT4, rfl, Or.inl (tb_of (tb2 45 rfl) rfl)⟩
theorem fl9_73 : FLk RX9 73 4 8 := ⟨_, _, _, rfl, by decide, inT4, rfl, Or.inr ⟨_, (tb2 46 rfl)⟩⟩
theorem fl4_45 : FLk RX4 45 4 9 := ⟨_, _, _, rfl, by decide, inT4, rfl, Or.inl (tb_of (tb2 47 rfl) rfl)⟩
theorem fl9_37 : FLk RX9 37 4 9 := ⟨_, _, _, rfl, by decide, inT4, rfl, Or.inr ⟨_, (tb2 48 rfl)⟩⟩
theorem fl10_95 : FLk RX10 95 4 9 := ⟨_, _, _, rfl, by decide, inT4, rfl, Or.inr ⟨_, (tb2 49 rfl)⟩⟩
theorem fl11_131 : FLk RX11 131 4 9 := ⟨_, _, _, rfl, by decide, inT4, rfl, Or.inr ⟨_, (tb2 50 rfl)⟩⟩
theorem fl4_48 : FLk RX4 48 4 10 := ⟨_, _, _, rfl, by decide, inT4, rfl, Or.inl (tb_of (tb2 51 rfl) rfl)⟩
theorem fl10_91 : FLk RX10 91 4 10 := ⟨_, _, _, rfl, by decide, inT4, rfl, Or.inr ⟨_, (tb2 52 rfl)⟩⟩
theorem fl9_133 : FLk RX9 133 4 10 := ⟨_, _, _, rfl, by decide, inT4, rfl, Or.inr ⟨_, (tb2 53 rfl)⟩⟩
theorem fl11_167 : FLk RX11 167 4 10 := ⟨_, _, _, rfl, by decide, inT4, rfl, Or.inr ⟨_, (tb2 54 rfl)⟩⟩
theorem fl4_51 : FLk RX4 51 4 11 := ⟨_, _, _, rfl, by decide, inT4, rfl, Or.inl (tb_of (tb2 55 rfl) rfl)⟩
theorem fl4_54 : FLk RX4 54 4 12 := ⟨_, _, _, rfl, by decide, inT4, rfl, Or.inl (tb_of (tb2 56 rfl) rfl)⟩
theorem fl10_98 : FLk RX10 98 4 12 := ⟨_, _, _, rfl, by decide, inT4, rfl, Or.inr ⟨_, (tb2 57 rfl)⟩⟩
theorem fl9_159 : FLk RX9 159 4 12 := ⟨_, _, _, rfl, by decide, inT4, rfl, Or.inr ⟨_, (tb2 58 rfl)⟩⟩
theorem fl11_170 : FLk RX11 170 4 12 := ⟨_, _, _, rfl, by decide, inT4, rfl, Or.inr ⟨_, (tb2 59 rfl)⟩⟩
theorem fl4_57 : FLk RX4 57 4 13 := ⟨_, _, _, rfl, by decide, inT4, rfl, Or.inl (tb_of (tb2 60 rfl) rfl)⟩
theorem fl9_54 : FLk RX9 54 4 13 := ⟨_, _, _, rfl, by decide, inT4, rfl, Or.inr ⟨_, (tb2 61 rfl)⟩⟩
theorem fl8_11 : FLk RX8 11 8 0 := ⟨_, _, _, rfl, by decide, inT8, rfl, Or.inl (tb_of (tb2 91 rfl) rfl)⟩
theorem fl8_17 : FLk RX8 17 8 1 := ⟨_, _, _, rfl, by decide, inT8, rfl, Or.inl (tb_of (tb2 92 rfl) rfl)⟩
theorem fl5_23 : FLk RX5 23 8 1 := ⟨_, _, _, rfl, by decide, inT8, rfl, Or.inr ⟨_, (tb2 93 rfl)⟩⟩
theorem fl11_183 : FLk RX11 183 8 1 := ⟨_, _, _, rfl, by decide, inT8, rfl, Or.inr ⟨_, (tb2 94 rfl)⟩⟩
theorem fl11_10 : FLk RX11 10 11 0 := ⟨_, _, _, rfl, by decide, inT11, rfl, Or.inl (tb_of (tb2 100 rfl) rfl)⟩
theorem fl11_16 : FLk RX11 16 11 1 := ⟨_, _, _, rfl, by decide, inT11, rfl, Or.inl (tb_of (tb2 101 rfl) rfl)⟩
theorem fl11_22 : FLk RX11 22 11 2 := ⟨_, _, _, rfl, by decide, inT11, rfl, Or.inl (tb_of (tb2 102 rfl) rfl)⟩
theorem fl11_30 : FLk RX11 30 11 3 := ⟨_, _, _, rfl, by decide, inT11, rfl, Or.inl (tb_of (tb2 103 rfl) rfl)⟩
theorem fl11_35 : FLk RX11 35 11 4 := ⟨_, _, _, rfl, by decide, inT11, rfl, Or.inl (tb_of (tb2 104 rfl) rfl)⟩
theorem fl11_39 : FLk RX11 39 11 5 := ⟨_, _, _, rfl, by decide, inT11, rfl, Or.inl (tb_of (tb2 105 rfl) rfl)⟩
theorem fl11_43 : FLk RX11 43 11 6 := ⟨_, _, _, rfl, by decide, inT11, rfl, Or.inl (tb_of (tb2 106 rfl) rfl)⟩
theorem fl11_49 : FLk RX11 49 11 7 := ⟨_, _, _, rfl, by decide, inT11, rfl, Or.inl (tb_of (tb2 107 rfl) rfl)⟩
theorem fl11_53 : FLk RX11 53 11 8 := ⟨_, _, _, rfl, by decide, inT11, rfl, Or.inl (tb_of (tb2 108 rfl) rfl)⟩
theorem fl11_56 : FLk RX11 56 11 9 := ⟨_, _, _, rfl, by decide, inT11, rfl, Or.inl (tb_of (tb2 109 rfl) rfl)⟩
theorem fl5_15 : FLk RX5 15 5 0 := ⟨_, _, _, rfl, by decide, inT5, rfl, Or.inl (tb_of (tb2 149 rfl) rfl)⟩
theorem fl5_19 : FLk RX5 19 5 1 := ⟨_, _, _, rfl, by decide, inT5, rfl, Or.inl (tb_of (tb2 150 rfl) rfl)⟩
theorem fl5_9 : FLk RX5 9 5 2 := ⟨_, _, _, rfl, by decide, inT5, rfl, Or.inl (tb_of (tb2 151 rfl) rfl)⟩
theorem fl10_9 : FLk RX10 9 10 0 := ⟨_, _, _, rfl, by decide, inT10, rfl, Or.inl (tb_of (tb4 69 rfl) rfl)⟩
theorem fl10_15 : FLk RX10 15 10 1 := ⟨_, _, _, rfl, by decide, inT10, rfl, Or.inl (tb_of (tb4 70 rfl) rfl)⟩
theorem fl12_9 : FLk RX12 9 12 0 := ⟨_, _, _, rfl, by decide, inT12, rfl, Or.inl (tb_of (tb4 129 rfl) rfl)⟩
theorem fl12_13 : FLk RX12 13 12 1 := ⟨_, _, _, rfl, by decide, inT12, rfl, Or.inl (tb_of (tb4 130 rfl) rfl)⟩
theorem fl12_16 : FLk RX12 16 12 2 := ⟨_, _, _, rfl, by decide, inT12, rfl, Or.inl (tb_of (tb4 131 rfl) rfl)⟩
theorem fl12_158 : FLk RX12 158 12 3 := ⟨_, _, _, rfl, by decide, inT12, rfl, Or.inl (tb_of (tb4 132 rfl) rfl)⟩
theorem fl12_19 : FLk RX12 19 12 4 := ⟨_, _, _, rfl, by decide, inT12, rfl, Or.inl (tb_of (tb4 133 rfl) rfl)⟩
theorem fl12_22 : FLk RX12 22 12 5 := ⟨_, _, _, rfl, by decide, inT12, rfl, Or.inl (tb_of (tb4 134 rfl) rfl)⟩
theorem fl12_98 : FLk RX12 98 12 6 := ⟨_, _, _, rfl, by decide, inT12, rfl, Or.inl (tb_of (tb4 135 rfl) rfl)⟩
theorem fl12_238 : FLk RX12 238 12 7 := ⟨_, _, _, rfl, by decide, inT12, rfl, Or.inl (tb_of (tb4 136 rfl) rfl)⟩
theorem fl12_155 : FLk RX12 155 12 8 := ⟨_, _, _, rfl, by decide, inT12, rfl, Or.inl (tb_of (tb4 137 rfl) rfl)⟩
theorem fl12_25 : FLk RX12 25 12 9 := ⟨_, _, _, rfl, by decide, inT12, rfl, Or.inl (tb_of (tb4 138 rfl) rfl)⟩
theorem fl12_28 : FLk RX12 28 12 10 := ⟨_, _, _, rfl, by decide, inT12, rfl, Or.inl (tb_of (tb4 139 rfl) rfl)⟩
theorem fl12_31 : FLk RX12 31 12 11 := ⟨_, _, _, rfl, by decide, inT12, rfl, Or.inl (tb_of (tb4 140 rfl) rfl)⟩
theorem fl12_34 : FLk RX12 34 12 12 := ⟨_, _, _, rfl, by decide, inT12, rfl, Or.inl (tb_of (tb4 141 rfl) rfl)⟩
theorem fl12_37 : FLk RX12 37 12 13 := ⟨_, _, _, rfl, by decide, inT12, rfl, Or.inl (tb_of (tb4 142 rfl) rfl)⟩
theorem fl12_40 : FLk RX12 40 12 14 := ⟨_, _, _, rfl, by decide, inT12, rfl, Or.inl (tb_of (tb4 143 rfl) rfl)⟩
theorem fl12_43 : FLk RX12 43 12 15 := ⟨_, _, _, rfl, by decide, inT12, rfl, Or.inl (tb_of (tb4 144 rfl) rfl)⟩
theorem fl12_46 : FLk RX12 46 12 16 := ⟨_, _, _, rfl, by decide, inT12, rfl, Or.inl (tb_of (tb4 145 rfl) rfl)⟩
theorem fl12_49 : FLk RX12 49 12 17 := ⟨_, _, _, rfl, by decide, inT12, rfl, Or.inl (tb_of (tb4 146 rfl) rfl)⟩
theorem fl12_52 : FLk RX12 52 12 18 := ⟨_, _, _, rfl, by decide, inT12, rfl, Or.inl (tb_of (tb4 147 rfl) rfl)⟩
theorem fl12_55 : FLk RX12 55 12 19 := ⟨_, _, _, rfl, by decide, inT12, rfl, Or.inl (tb_of (tb4 148 rfl) rfl)⟩
theorem fl12_102 : FLk RX12 102 12 20 := ⟨_, _, _, rfl, by decide, inT12, rfl, Or.inl (tb_of (tb4 149 rfl) rfl)⟩
theorem fl12_128 : FLk RX12 128 12 21 := ⟨_, _, _, rfl, by decide, inT12, rfl, Or.inl (tb_of (tb4 150 rfl) rfl)⟩
theorem fl12_109 : FLk RX12 109 12 22 := ⟨_, _, _, rfl, by decide, inT12, rfl, Or.inl (tb_of (tb4 151 rfl) rfl)⟩
theorem fl12_58 : FLk RX12 58 12 23 := ⟨_, _, _, rfl, by decide, inT12, rfl, Or.inl (tb_of (tb4 152 rfl) rfl)⟩
theorem fl12_61 : FLk RX12 61 12 24 := ⟨_, _, _, rfl, by decide, inT12, rfl, Or.inl (tb_of (tb4 153 rfl) rfl)⟩
theorem fl12_64 : FLk RX12 64 12 25 := ⟨_, _, _, rfl, by decide, inT12, rfl, Or.inl (tb_of (tb4 154 rfl) rfl)⟩
theorem fl12_67 : FLk RX12 67 12 26 := ⟨_, _, _, rfl, by decide, inT12, rfl, Or.inl (tb_of (tb4 155 rfl) rfl)⟩
theorem fl12_70 : FLk RX12 70 12 27 := ⟨_, _, _, rfl, by decide, inT12, rfl, Or.inl (tb_of (tb4 156 rfl) rfl)⟩
theorem fl12_73 : FLk RX12 73 12 28 := ⟨_, _, _, rfl, by decide, inT12, rfl, Or.inl (tb_of (tb4 157 rfl) rfl)⟩
theorem fl12_76 : FLk RX12 76 12 29 := ⟨_, _, _, rfl, by decide, inT12, rfl, Or.inl (tb_of (tb4 158 rfl) rfl)⟩
theorem fl12_79 : FLk RX12 79 12 30 := ⟨_, _, _, rfl, by decide, inT12, rfl, Or.inl (tb_of (tb4 159 rfl) rfl)⟩
theorem fl12_82 : FLk RX12 82 12 31 := ⟨_, _, _, rfl, by decide, inT12, rfl, Or.inl (tb_of (tb4 160 rfl) rfl)⟩
theorem fl12_85 : FLk RX12 85 12 32 := ⟨_, _, _, rfl, by decide, inT12, rfl, Or.inl (tb_of (tb4 161 rfl) rfl)⟩
theorem fl12_88 : FLk RX12 88 12 33 := ⟨_, _, _, rfl, by decide, inT12, rfl, Or.inl (tb_of (tb4 162 rfl) rfl)⟩
theorem fl12_91 : FLk RX12 91 12 34 := ⟨_, _, _, rfl, by decide, inT12, rfl, Or.inl (tb_of (tb4 163 rfl) rfl)⟩
theorem fl12_131 : FLk RX12 131 12 35 := ⟨_, _, _, rfl, by decide, inT12, rfl, Or.inl (tb_of (tb4 164 rfl) rfl)⟩
theorem fl12_146 : FLk RX12 146 12 36 := ⟨_, _, _, rfl, by decide, inT12, rfl, Or.inl (tb_of (tb4 165 rfl) rfl)⟩
theorem fl12_228 : FLk RX12 228 12 38 := ⟨_, _, _, rfl, by decide, inT12, rfl, Or.inl (tb_of (tb4 166 rfl) rfl)⟩
theorem fw1_0 : FLw 1 0 .boolean := ⟨_, _, _, _, rfl, tyX1_ok, nmX1, rfl, by decide +kernel⟩
theorem fw1_1 : FLw 1 1 .int := ⟨_, _, _, _, rfl, tyX1_ok, nmX1, rfl, by decide +kernel⟩
theorem fw1_2 : FLw 1 2 .char := ⟨_, _, _, _, rfl, tyX1_ok, nmX1, rfl, by decide +kernel⟩
theorem fw1_3 : FLw 1 3 .int := ⟨_, _, _, _, rfl, tyX1_ok, nmX1, rfl, by decide +kernel⟩
theorem fw1_4 : FLw 1 4 (.object "BehaviorRunner$Node") := ⟨_, _, _, _, rfl, tyX1_ok, nmX1, rfl, by decide +kernel⟩
theorem fw2_0 : FLw 2 0 (.object "BehaviorRunner$Node") := ⟨_, _, _, _, rfl, tyX2_ok, nmX2, rfl, by decide +kernel⟩
theorem fw2_1 : FLw 2 1 .int := ⟨_, _, _, _, rfl, tyX2_ok, nmX2, rfl, by decide +kernel⟩
theorem fw2_2 : FLw 2 2 .int := ⟨_, _, _, _, rfl, tyX2_ok, nmX2, rfl, by decide +kernel⟩
theorem fw2_3 : FLw 2 3 .int := ⟨_, _, _, _, rfl, tyX2_ok, nmX2, rfl, by decide +kernel⟩
theorem fw2_4 : FLw 2 4 .int := ⟨_, _, _, _, rfl, tyX2_ok, nmX2, rfl, by decide +kernel⟩
theorem fw2_5 : FLw 2 5 .int := ⟨_, _, _, _, rfl, tyX2_ok, nmX2, rfl, by decide +kernel⟩
theorem fw2_6 : FLw 2 6 .int := ⟨_, _, _, _, rfl, tyX2_ok, nmX2, rfl, by decide +kernel⟩
theorem fw2_7 : FLw 2 7 .int := ⟨_, _, _, _, rfl, tyX2_ok, nmX2, rfl, by decide +kernel⟩
theorem fw2_8 : FLw 2 8 .int := ⟨_, _, _, _, rfl, tyX2_ok, nmX2, rfl, by decide +kernel⟩
theorem fw3_0 : FLw 3 0 .boolean := ⟨_, _, _, _, rfl, tyX3_ok, nmX3, rfl, by decide +kernel⟩
theorem fw3_1 : FLw 3 1 .int := ⟨_, _, _, _, rfl, tyX3_ok, nmX3, rfl, by decide +kernel⟩
theorem fw3_2 : FLw 3 2 (.object "BehaviorRunner$Node") := ⟨_, _, _, _, rfl, tyX3_ok, nmX3, rfl, by decide +kernel⟩
theorem fw3_3 : FLw 3 3 .int := ⟨_, _, _, _, rfl, tyX3_ok, nmX3, rfl, by decide +kernel⟩
theorem fw3_4 : FLw 3 4 .int := ⟨_, _, _, _, rfl, tyX3_ok, nmX3, rfl, by decide +kernel⟩
theorem fw3_5 : FLw 3 5 .int := ⟨_, _, _, _, rfl, tyX3_ok, nmX3, rfl, by decide +kernel⟩
theorem fw3_6 : FLw 3 6 .int := ⟨_, _, _, _, rfl, tyX3_ok, nmX3, rfl, by decide +kernel⟩
theorem fw3_7 : FLw 3 7 .int := ⟨_, _, _, _, rfl, tyX3_ok, nmX3, rfl, by decide +kernel⟩
theorem fw3_8 : FLw 3 8 .int := ⟨_, _, _, _, rfl, tyX3_ok, nmX3, rfl, by decide +kernel⟩
theorem fw3_9 : FLw 3 9 .int := ⟨_, _, _, _, rfl, tyX3_ok, nmX3, rfl, by decide +kernel⟩
theorem fw4_4 : FLw 4 4 .int := ⟨_, _, _, _, rfl, tyX4_ok, nmX4, rfl, by decide +kernel⟩
theorem fw4_5 : FLw 4 5 .int := ⟨_, _, _, _, rfl, tyX4_ok, nmX4, rfl, by decide +kernel⟩
theorem fw4_6 : FLw 4 6 .int := ⟨_, _, _, _, rfl, tyX4_ok, nmX4, rfl, by decide +kernel⟩
theorem fw4_7 : FLw 4 7 .int := ⟨_, _, _, _, rfl, tyX4_ok, nmX4, rfl, by decide +kernel⟩
theorem fw4_8 : FLw 4 8 (.object "BehaviorRunner$Node") := ⟨_, _, _, _, rfl, tyX4_ok, nmX4, rfl, by decide +kernel⟩
theorem fw4_9 : FLw 4 9 (.object "BehaviorRunner$Node") := ⟨_, _, _, _, rfl, tyX4_ok, nmX4, rfl, by decide +kernel⟩
theorem fw4_10 : FLw 4 10 (.object "BehaviorRunner$Node") := ⟨_, _, _, _, rfl, tyX4_ok, nmX4, rfl, by decide +kernel⟩
theorem fw4_11 : FLw 4 11 (.object "BehaviorRunner$Node") := ⟨_, _, _, _, rfl, tyX4_ok, nmX4, rfl, by decide +kernel⟩
theorem fw4_12 : FLw 4 12 (.object "BehaviorRunner$Node") := ⟨_, _, _, _, rfl, tyX4_ok, nmX4, rfl, by decide +kernel⟩
theorem fw4_13 : FLw 4 13 (.object "BehaviorRunner$Node") := ⟨_, _, _, _, rfl, tyX4_ok, nmX4, rfl, by decide +kernel⟩
theorem fw5_2 : FLw 5 2 .int := ⟨_, _, _, _, rfl, tyX5_ok, nmX5, rfl, by decide +kernel⟩
theorem fw7_1 : FLw 7 1 .int := ⟨_, _, _, _, rfl, tyX7_ok, nmX7, rfl, by decide +kernel⟩
theorem fw8_1 : FLw 8 1 .int := ⟨_, _, _, _, rfl, tyX8_ok, nmX8, rfl, by decide +kernel⟩
theorem fw11_7 : FLw 11 7 (.object "BehaviorRunner$Tree") := ⟨_, _, _, _, rfl, tyX11_ok, nmX11, rfl, by decide +kernel⟩
theorem fw11_8 : FLw 11 8 (.object "BehaviorRunner$Tree") := ⟨_, _, _, _, rfl, tyX11_ok, nmX11, rfl, by decide +kernel⟩
theorem fw11_9 : FLw 11 9 .boolean := ⟨_, _, _, _, rfl, tyX11_ok, nmX11, rfl, by decide +kernel⟩
theorem fw12_3 : FLw 12 3 .boolean := ⟨_, _, _, _, rfl, tyX12_ok, nmX12, rfl, by decide +kernel⟩
theorem fw12_6 : FLw 12 6 .int := ⟨_, _, _, _, rfl, tyX12_ok, nmX12, rfl, by decide +kernel⟩
theorem fw12_7 : FLw 12 7 .int := ⟨_, _, _, _, rfl, tyX12_ok, nmX12, rfl, by decide +kernel⟩
theorem fw12_8 : FLw 12 8 .int := ⟨_, _, _, _, rfl, tyX12_ok, nmX12, rfl, by decide +kernel⟩
theorem fw12_20 : FLw 12 20 .int := ⟨_, _, _, _, rfl, tyX12_ok, nmX12, rfl, by decide +kernel⟩
theorem fw12_21 : FLw 12 21 .int := ⟨_, _, _, _, rfl, tyX12_ok, nmX12, rfl, by decide +kernel⟩
theorem fw12_22 : FLw 12 22 .boolean := ⟨_, _, _, _, rfl, tyX12_ok, nmX12, rfl, by decide +kernel⟩
theorem fw12_35 : FLw 12 35 .int := ⟨_, _, _, _, rfl, tyX12_ok, nmX12, rfl, by decide +kernel⟩
theorem fw12_36 : FLw 12 36 .boolean := ⟨_, _, _, _, rfl, tyX12_ok, nmX12, rfl, by decide +kernel⟩
theorem fw12_37 : FLw 12 37 .int := ⟨_, _, _, _, rfl, tyX12_ok, nmX12, rfl, by decide +kernel⟩
theorem fw12_38 : FLw 12 38 .int := ⟨_, _, _, _, rfl, tyX12_ok, nmX12, rfl, by decide +kernel⟩
/-- a call's words: the link, the callee's code, and how it is chosen -/
def CLs (own : String) (idx : Nat) (y : MethodName) (b : ByteArray) (n : Nat) (ret : Option FieldType) : Prop := Cond.methodLink own idx y ∈ TBL ∧ Cond.code y b n ret ∈ TBL ∧ Cond.initialized y.cls ∈ TBL ∧ Cond.static y ∈ TBL
def CLv (own : String) (idx : Nat) (y : MethodName) (b : ByteArray) (n : Nat) (ret : Option FieldType) : Prop := Cond.methodLink own idx y ∈ TBL ∧ Cond.code y b n ret ∈ TBL ∧ Cond.initialized y.cls ∈ TBL ∧ Cond.instanceMethod y ∈ TBL ∧ Cond.selects y.cls y y ∈ TBL
theorem clL_13 : CLv RL 13 yX11_append cX11_append 4 ((Option.some FieldType.int)) := ⟨(tb_of (tb2 131 rfl) rfl), (tb_of (tb2 134 rfl) rfl), (tb_of (tb1 1 rfl) rfl), (tb_of (tb2 132 rfl) rfl), (tb_of (tb2 133 rfl) rfl)⟩
theorem clX11_64 : CLv RX11 64 yX7_add cX7_add 2 ((Option.none : Option FieldType)) := ⟨(tb_of (tb2 135 rfl) rfl), (tb_of (tb2 138 rfl) rfl), (tb_of (tb1 2 rfl) rfl), (tb_of (tb2 136 rfl) rfl), (tb_of (tb2 137 rfl) rfl)⟩
theorem clL_18 : CLv RL 18 yX11_readTree cX11_readTree 3 ((Option.some FieldType.int)) := ⟨(tb_of (tb2 139 rfl) rfl), (tb_of (tb2 142 rfl) rfl), (tb_of (tb1 1 rfl) rfl), (tb_of (tb2 140 rfl) rfl), (tb_of (tb2 141 rfl) rfl)⟩
theorem clX11_73 : CLv RX11 73 yX5_parse cX5_parse 2 ((Option.some FieldType.int)) := ⟨(tb_of (tb2 159 rfl) rfl), (tb_of (tb2 162 rfl) rfl), (tb_of (tb1 12 rfl) rfl), (tb_of (tb2 160 rfl) rfl), (tb_of (tb2 161 rfl) rfl)⟩
theorem clX5_28 : CLv RX5 28 yX5_readNode cX5_readNode 5 ((Option.some FieldType.boolean)) := ⟨(tb_of (tb2 163 rfl) rfl), (tb_of (tb2 166 rfl) rfl), (tb_of (tb1 12 rfl) rfl), (tb_of (tb2 165 rfl) rfl), (tbp (lwp1 0 rfl) rfl)⟩
theorem clX5_39 : CLv RX5 39 yX5_placeIn cX5_placeIn 3 ((Option.some FieldType.int)) := ⟨(tb_of (tb2 168 rfl) rfl), (tb_of (tb2 171 rfl) rfl), (tb_of (tb1 12 rfl) rfl), (tb_of (tb2 170 rfl) rfl), (tbp (lwp1 1 rfl) rfl)⟩
theorem clX5_89 : CLv RX5 89 yX7_codeAt cX7_codeAt 2 ((Option.some FieldType.int)) := ⟨(tb_of (tb2 172 rfl) rfl), (tb_of (tb2 175 rfl) rfl), (tb_of (tb1 2 rfl) rfl), (tb_of (tb2 173 rfl) rfl), (tb_of (tb2 174 rfl) rfl)⟩
theorem clX5_127 : CLv RX5 127 yJ0_indexOf_0f7a4 cJ0_indexOf_0f7a4 2 ((Option.some FieldType.int)) := ⟨(tb_of (tb2 176 rfl) rfl), (tb_of (tb2 179 rfl) rfl), (tb_of (tb1 13 rfl) rfl), (tb_of (tb2 177 rfl) rfl), (tb_of (tb2 178 rfl) rfl)⟩
theorem clJ0_633 : CLv RJ0 633 yJ0_indexOf_7cf53 cJ0_indexOf_7cf53 3 ((Option.some FieldType.int)) := ⟨(tb_of (tb2 180 rfl) rfl), (tb_of (tb2 183 rfl) rfl), (tb_of (tb1 13 rfl) rfl), (tb_of (tb2 181 rfl) rfl), (tb_of (tb2 182 rfl) rfl)⟩
theorem clJ0_492 : CLv RJ0 492 yJ0_isLatin1_aae02 cJ0_isLatin1_aae02 1 ((Option.some FieldType.boolean)) := ⟨(tb_of (tb2 184 rfl) rfl), (tb_of (tb2 187 rfl) rfl), (tb_of (tb1 13 rfl) rfl), (tb_of (tb2 185 rfl) rfl), (tb_of (tb2 186 rfl) rfl)⟩
theorem clJ0_505 : CLv RJ0 505 yJ0_length_8abf5 cJ0_length_8abf5 1 ((Option.some FieldType.int)) := ⟨(tb_of (tb2 190 rfl) rfl), (tb_of (tb2 193 rfl) rfl), (tb_of (tb1 13 rfl) rfl), (tb_of (tb2 191 rfl) rfl), (tb_of (tb2 192 rfl) rfl)⟩
theorem clJ0_335 : CLv RJ0 335 yJ0_coder_7d493 cJ0_coder_7d493 1 ((Option.some FieldType.byte)) := ⟨(tb_of (tb2 194 rfl) rfl), (tb_of (tb2 197 rfl) rfl), (tb_of (tb1 13 rfl) rfl), (tb_of (tb2 195 rfl) rfl), (tb_of (tb2 196 rfl) rfl)⟩
theorem clJ0_637 : CLs RJ0 637 yJ1_indexOf_4cfef cJ1_indexOf_4cfef 4 ((Option.some FieldType.int)) := ⟨(tb_of (tb2 198 rfl) rfl), (tb_of (tb2 200 rfl) rfl), (tb_of (tb1 14 rfl) rfl), (tb_of (tb2 199 rfl) rfl)⟩
theorem clJ1_88 : CLs RJ1 88 yJ1_canEncode_9a6ad cJ1_canEncode_9a6ad 1 ((Option.some FieldType.boolean)) := ⟨(tb_of (tb2 201 rfl) rfl), (tb_of (tb2 203 rfl) rfl), (tb_of (tb1 14 rfl) rfl), (tb_of (tb2 202 rfl) rfl)⟩
theorem clJ1_92 : CLs RJ1 92 yJ9_max_7cf53 cJ9_max_7cf53 2 ((Option.some FieldType.int)) := ⟨(tb_of (tb2 204 rfl) rfl), (tb_of (tb2 206 rfl) rfl), (tb_of (tb1 15 rfl) rfl), (tb_of (tb2 205 rfl) rfl)⟩
theorem clJ1_38 : CLs RJ1 38 yJ9_min_7cf53 cJ9_min_7cf53 2 ((Option.some FieldType.int)) := ⟨(tb_of (tb2 207 rfl) rfl), (tb_of (tb2 209 rfl) rfl), (tb_of (tb1 15 rfl) rfl), (tb_of (tb2 208 rfl) rfl)⟩
theorem clJ1_95 : CLs RJ1 95 yJ1_indexOfChar_4cfef cJ1_indexOfChar_4cfef 6 ((Option.some FieldType.int)) := ⟨(tb_of (tb2 210 rfl) rfl), (tb_of (tb2 212 rfl) rfl), (tb_of (tb1 14 rfl) rfl), (tb_of (tb2 211 rfl) rfl)⟩
theorem clJ0_640 : CLs RJ0 640 yJ2_indexOf_4cfef cJ2_indexOf_4cfef 4 ((Option.some FieldType.int)) := ⟨(tb_of (tb2 213 rfl) rfl), (tb_of (tb2 215 rfl) rfl), (tb_of (tb1 16 rfl) rfl), (tb_of (tb2 214 rfl) rfl)⟩
theorem clJ2_224 : CLs RJ2 224 yJ9_max_7cf53 cJ9_max_7cf53 2 ((Option.some FieldType.int)) := ⟨(tb_of (tb2 216 rfl) rfl), (tb_of (tb2 206 rfl) rfl), (tb_of (tb1 15 rfl) rfl), (tb_of (tb2 205 rfl) rfl)⟩
theorem clJ2_183 : CLs RJ2 183 yJ9_min_7cf53 cJ9_min_7cf53 2 ((Option.some FieldType.int)) := ⟨(tb_of (tb2 217 rfl) rfl), (tb_of (tb2 209 rfl) rfl), (tb_of (tb1 15 rfl) rfl), (tb_of (tb2 208 rfl) rfl)⟩
theorem clJ2_228 : CLs RJ2 228 yJ2_indexOfChar_4cfef cJ2_indexOfChar_4cfef 4 ((Option.some FieldType.int)) := ⟨(tb_of (tb2 219 rfl) rfl), (tb_of (tb2 221 rfl) rfl), (tb_of (tb1 16 rfl) rfl), (tb_of (tb2 220 rfl) rfl)⟩
theorem clJ2_96 : CLs RJ2 96 yJ2_checkBoundsBeginEnd_d044e cJ2_checkBoundsBeginEnd_d044e 3 ((Option.none : Option FieldType)) := ⟨(tb_of (tb2 222 rfl) rfl), (tb_of (tb2 224 rfl) rfl), (tb_of (tb1 16 rfl) rfl), (tb_of (tb2 223 rfl) rfl)⟩
theorem clJ2_48 : CLs RJ2 48 yJ2_length_9d52b cJ2_length_9d52b 1 ((Option.some FieldType.int)) := ⟨(tb_of (tb2 225 rfl) rfl), (tb_of (tb2 227 rfl) rfl), (tb_of (tb1 16 rfl) rfl), (tb_of (tb2 226 rfl) rfl)⟩
theorem clJ2_241 : CLs RJ2 241 yJ0_checkBoundsBeginEnd_23922 cJ0_checkBoundsBeginEnd_23922 3 ((Option.none : Option FieldType)) := ⟨(tb_of (tb2 228 rfl) rfl), (tb_of (tb2 230 rfl) rfl), (tb_of (tb1 13 rfl) rfl), (tb_of (tb2 229 rfl) rfl)⟩
theorem clJ0_1062 : CLs RJ0 1062 yJ3_checkFromToIndex_8c36e cJ3_checkFromToIndex_8c36e 4 ((Option.some FieldType.int)) := ⟨(tb_of (tb2 233 rfl) rfl), (tb_of (tb2 235 rfl) rfl), (tb_of (tb1 17 rfl) rfl), (tb_of (tb2 234 rfl) rfl)⟩
theorem clJ2_244 : CLs RJ2 244 yJ2_indexOfCharUnsafe_4cfef cJ2_indexOfCharUnsafe_4cfef 5 ((Option.some FieldType.int)) := ⟨(tb_of (tb2 236 rfl) rfl), (tb_of (tb2 238 rfl) rfl), (tb_of (tb1 16 rfl) rfl), (tb_of (tb2 237 rfl) rfl)⟩
theorem clJ2_71 : CLs RJ2 71 yJ2_getChar_3b067 cJ2_getChar_3b067 2 ((Option.some FieldType.char)) := ⟨(tb_of (tb2 239 rfl) rfl), (tb_of (tb3 1 rfl) rfl), (tb_of (tb1 16 rfl) rfl), (tb_of (tb3 0 rfl) rfl)⟩
theorem clJ2_232 : CLs RJ2 232 yJ2_indexOfSupplementary_4cfef cJ2_indexOfSupplementary_4cfef 7 ((Option.some FieldType.int)) := ⟨(tb_of (tb3 8 rfl) rfl), (tb_of (tb3 10 rfl) rfl), (tb_of (tb1 16 rfl) rfl), (tb_of (tb3 9 rfl) rfl)⟩
theorem clJ2_164 : CLs RJ2 164 yJ11_isValidCodePoint_9a6ad cJ11_isValidCodePoint_9a6ad 2 ((Option.some FieldType.boolean)) := ⟨(tb_of (tb3 11 rfl) rfl), (tb_of (tb3 13 rfl) rfl), (tb_of (tb1 18 rfl) rfl), (tb_of (tb3 12 rfl) rfl)⟩
theorem clJ2_157 : CLs RJ2 157 yJ11_highSurrogate_5068e cJ11_highSurrogate_5068e 1 ((Option.some FieldType.char)) := ⟨(tb_of (tb3 14 rfl) rfl), (tb_of (tb3 16 rfl) rfl), (tb_of (tb1 18 rfl) rfl), (tb_of (tb3 15 rfl) rfl)⟩
theorem clJ2_161 : CLs RJ2 161 yJ11_lowSurrogate_5068e cJ11_lowSurrogate_5068e 1 ((Option.some FieldType.char)) := ⟨(tb_of (tb3 18 rfl) rfl), (tb_of (tb3 20 rfl) rfl), (tb_of (tb1 18 rfl) rfl), (tb_of (tb3 19 rfl) rfl)⟩
theorem clX5_43 : CLv RX5 43 yX8_grow cX8_grow 4 ((Option.some (FieldType.object "BehaviorRunner$Node"))) := ⟨(tb_of (tb3 22 rfl) rfl), (tb_of (tb3 25 rfl) rfl), (tb_of (tb1 8 rfl) rfl), (tb_of (tb3 23 rfl) rfl), (tb_of (tb3 24 rfl) rfl)⟩
theorem clX8_24 : CLv RX8 24 yX8_nodeAt cX8_nodeAt 2 ((Option.some (FieldType.object "BehaviorRunner$Node"))) := ⟨(tb_of (tb3 26 rfl) rfl), (tb_of (tb3 29 rfl) rfl), (tb_of (tb1 8 rfl) rfl), (tb_of (tb3 27 rfl) rfl), (tb_of (tb3 28 rfl) rfl)⟩
theorem clX8_28 : CLv RX8 28 yX4_reset cX4_reset 4 ((Option.none : Option FieldType)) := ⟨(tb_of (tb3 30 rfl) rfl), (tb_of (tb3 33 rfl) rfl), (tb_of (tb1 9 rfl) rfl), (tb_of (tb3 31 rfl) rfl), (tb_of (tb3 32 rfl) rfl)⟩
theorem clX4_63 : CLv RX4 63 yX1_clear cX1_clear 1 ((Option.none : Option FieldType)) := ⟨(tb_of (tb3 34 rfl) rfl), (tb_of (tb3 37 rfl) rfl), (tb_of (tb1 10 rfl) rfl), (tb_of (tb3 35 rfl) rfl), (tb_of (tb3 36 rfl) rfl)⟩
theorem clX4_66 : CLv RX4 66 yX3_clear cX3_clear 1 ((Option.none : Option FieldType)) := ⟨(tb_of (tb3 38 rfl) rfl), (tb_of (tb3 41 rfl) rfl), (tb_of (tb1 7 rfl) rfl), (tb_of (tb3 39 rfl) rfl), (tb_of (tb3 40 rfl) rfl)⟩
theorem clX8_32 : CLv RX8 32 yX4_adopt cX4_adopt 3 ((Option.none : Option FieldType)) := ⟨(tb_of (tb3 42 rfl) rfl), (tb_of (tb3 45 rfl) rfl), (tb_of (tb1 9 rfl) rfl), (tb_of (tb3 43 rfl) rfl), (tb_of (tb3 44 rfl) rfl)⟩
theorem clX5_47 : CLv RX5 47 yX5_readRest cX5_readRest 3 ((Option.some FieldType.boolean)) := ⟨(tb_of (tb3 46 rfl) rfl), (tb_of (tb3 49 rfl) rfl), (tb_of (tb1 12 rfl) rfl), (tb_of (tb3 48 rfl) rfl), (tbp (lwp1 2 rfl) rfl)⟩
theorem clX5_55 : CLv RX5 55 yX5_readNumber cX5_readNumber 5 ((Option.some FieldType.boolean)) := ⟨(tb_of (tb3 50 rfl) rfl), (tb_of (tb3 53 rfl) rfl), (tb_of (tb1 12 rfl) rfl), (tb_of (tb3 52 rfl) rfl), (tbp (lwp1 3 rfl) rfl)⟩
theorem clX5_82 : CLv RX5 82 yX5_readDigit cX5_readDigit 4 ((Option.some FieldType.int)) := ⟨(tb_of (tb3 54 rfl) rfl), (tb_of (tb3 57 rfl) rfl), (tb_of (tb1 12 rfl) rfl), (tb_of (tb3 56 rfl) rfl), (tbp (lwp1 4 rfl) rfl)⟩
theorem clX5_59 : CLv RX5 59 yX5_readEffects cX5_readEffects 3 ((Option.some FieldType.boolean)) := ⟨(tb_of (tb3 58 rfl) rfl), (tb_of (tb3 61 rfl) rfl), (tb_of (tb1 12 rfl) rfl), (tb_of (tb3 60 rfl) rfl), (tbp (lwp1 5 rfl) rfl)⟩
theorem clX5_69 : CLv RX5 69 yX5_readClause cX5_readClause 8 ((Option.some FieldType.boolean)) := ⟨(tb_of (tb3 63 rfl) rfl), (tb_of (tb3 66 rfl) rfl), (tb_of (tb1 12 rfl) rfl), (tb_of (tb3 65 rfl) rfl), (tbp (lwp1 6 rfl) rfl)⟩
theorem clX5_96 : CLv RX5 96 yJ0_length_8abf5 cJ0_length_8abf5 1 ((Option.some FieldType.int)) := ⟨(tb_of (tb3 67 rfl) rfl), (tb_of (tb2 193 rfl) rfl), (tb_of (tb1 13 rfl) rfl), (tb_of (tb2 191 rfl) rfl), (tb_of (tb2 192 rfl) rfl)⟩
theorem clX5_110 : CLv RX5 110 yJ0_charAt_5068e cJ0_charAt_5068e 2 ((Option.some FieldType.char)) := ⟨(tb_of (tb3 68 rfl) rfl), (tb_of (tb3 71 rfl) rfl), (tb_of (tb1 13 rfl) rfl), (tb_of (tb3 69 rfl) rfl), (tb_of (tb3 70 rfl) rfl)⟩
theorem clJ0_495 : CLs RJ0 495 yJ1_charAt_3b067 cJ1_charAt_3b067 2 ((Option.some FieldType.char)) := ⟨(tb_of (tb3 72 rfl) rfl), (tb_of (tb3 74 rfl) rfl), (tb_of (tb1 14 rfl) rfl), (tb_of (tb3 73 rfl) rfl)⟩
theorem clJ1_9 : CLs RJ1 9 yJ0_checkIndex_df160 cJ0_checkIndex_df160 2 ((Option.none : Option FieldType)) := ⟨(tb_of (tb3 75 rfl) rfl), (tb_of (tb3 77 rfl) rfl), (tb_of (tb1 13 rfl) rfl), (tb_of (tb3 76 rfl) rfl)⟩
theorem clJ0_1059 : CLs RJ0 1059 yJ3_checkIndex_8e157 cJ3_checkIndex_8e157 3 ((Option.some FieldType.int)) := ⟨(tb_of (tb3 78 rfl) rfl), (tb_of (tb3 80 rfl) rfl), (tb_of (tb1 17 rfl) rfl), (tb_of (tb3 79 rfl) rfl)⟩
theorem clJ0_498 : CLs RJ0 498 yJ2_charAt_3b067 cJ2_charAt_3b067 2 ((Option.some FieldType.char)) := ⟨(tb_of (tb3 81 rfl) rfl), (tb_of (tb3 83 rfl) rfl), (tb_of (tb1 16 rfl) rfl), (tb_of (tb3 82 rfl) rfl)⟩
theorem clJ2_67 : CLs RJ2 67 yJ2_checkIndex_2214a cJ2_checkIndex_2214a 2 ((Option.none : Option FieldType)) := ⟨(tb_of (tb3 84 rfl) rfl), (tb_of (tb3 86 rfl) rfl), (tb_of (tb1 16 rfl) rfl), (tb_of (tb3 85 rfl) rfl)⟩
theorem clJ2_414 : CLs RJ2 414 yJ0_checkIndex_df160 cJ0_checkIndex_df160 2 ((Option.none : Option FieldType)) := ⟨(tb_of (tb3 87 rfl) rfl), (tb_of (tb3 77 rfl) rfl), (tb_of (tb1 13 rfl) rfl), (tb_of (tb3 76 rfl) rfl)⟩
theorem clX5_119 : CLv RX5 119 yX4_scopeOf cX4_scopeOf 3 ((Option.some (FieldType.object "BehaviorRunner$Node"))) := ⟨(tb_of (tb3 88 rfl) rfl), (tb_of (tb3 91 rfl) rfl), (tb_of (tb1 9 rfl) rfl), (tb_of (tb3 89 rfl) rfl), (tb_of (tb3 90 rfl) rfl)⟩
theorem clX5_78 : CLv RX5 78 yX5_skip cX5_skip 2 ((Option.some FieldType.boolean)) := ⟨(tb_of (tb3 92 rfl) rfl), (tb_of (tb3 95 rfl) rfl), (tb_of (tb1 12 rfl) rfl), (tb_of (tb3 94 rfl) rfl), (tbp (lwp1 7 rfl) rfl)⟩
theorem clX5_75 : CLv RX5 75 yX5_readList cX5_readList 4 ((Option.some FieldType.boolean)) := ⟨(tb_of (tb3 97 rfl) rfl), (tb_of (tb3 100 rfl) rfl), (tb_of (tb1 12 rfl) rfl), (tb_of (tb3 99 rfl) rfl), (tbp (lwp1 8 rfl) rfl)⟩
theorem clX11_77 : CLv RX11 77 yX7_clear cX7_clear 1 ((Option.none : Option FieldType)) := ⟨(tb_of (tb3 101 rfl) rfl), (tb_of (tb3 104 rfl) rfl), (tb_of (tb1 2 rfl) rfl), (tb_of (tb3 102 rfl) rfl), (tb_of (tb3 103 rfl) rfl)⟩
theorem clX11_80 : CLv RX11 80 yX2_clear cX2_clear 1 ((Option.none : Option FieldType)) := ⟨(tb_of (tb3 105 rfl) rfl), (tb_of (tb3 108 rfl) rfl), (tb_of (tb1 5 rfl) rfl), (tb_of (tb3 106 rfl) rfl), (tb_of (tb3 107 rfl) rfl)⟩
theorem clL_23 : CLv RL 23 yX11_set cX11_set 4 ((Option.some FieldType.int)) := ⟨(tb_of (tb3 110 rfl) rfl), (tb_of (tb3 113 rfl) rfl), (tb_of (tb1 1 rfl) rfl), (tb_of (tb3 111 rfl) rfl), (tb_of (tb3 112 rfl) rfl)⟩
theorem clX11_83 : CLv RX11 83 yX0_valueIn cX0_valueIn 3 ((Option.some FieldType.int)) := ⟨(tb_of (tb3 114 rfl) rfl), (tb_of (tb3 117 rfl) rfl), (tb_of (tb1 4 rfl) rfl), (tb_of (tb3 115 rfl) rfl), (tb_of (tb3 116 rfl) rfl)⟩
theorem clX11_89 : CLv RX11 89 yX0_put cX0_put 4 ((Option.none : Option FieldType)) := ⟨(tb_of (tb3 118 rfl) rfl), (tb_of (tb3 121 rfl) rfl), (tb_of (tb1 4 rfl) rfl), (tb_of (tb3 119 rfl) rfl), (tb_of (tb3 120 rfl) rfl)⟩
theorem clL_27 : CLv RL 27 yX11_value cX11_value 4 ((Option.some FieldType.int)) := ⟨(tb_of (tb3 122 rfl) rfl), (tb_of (tb3 125 rfl) rfl), (tb_of (tb1 1 rfl) rfl), (tb_of (tb3 123 rfl) rfl), (tb_of (tb3 124 rfl) rfl)⟩
theorem clX11_93 : CLv RX11 93 yX8_nodeAt cX8_nodeAt 2 ((Option.some (FieldType.object "BehaviorRunner$Node"))) := ⟨(tb_of (tb3 126 rfl) rfl), (tb_of (tb3 29 rfl) rfl), (tb_of (tb1 8 rfl) rfl), (tb_of (tb3 27 rfl) rfl), (tb_of (tb3 28 rfl) rfl)⟩
theorem clX11_97 : CLv RX11 97 yX4_scopeOf cX4_scopeOf 3 ((Option.some (FieldType.object "BehaviorRunner$Node"))) := ⟨(tb_of (tb3 127 rfl) rfl), (tb_of (tb3 91 rfl) rfl), (tb_of (tb1 9 rfl) rfl), (tb_of (tb3 89 rfl) rfl), (tb_of (tb3 90 rfl) rfl)⟩
theorem clL_31 : CLv RL 31 yX11_tick cX11_tick 3 ((Option.some FieldType.int)) := ⟨(tb_of (tb3 128 rfl) rfl), (tb_of (tb3 131 rfl) rfl), (tb_of (tb1 1 rfl) rfl), (tb_of (tb3 129 rfl) rfl), (tb_of (tb3 130 rfl) rfl)⟩
theorem clX11_102 : CLv RX11 102 yX9_perform cX9_perform 7 ((Option.some FieldType.int)) := ⟨(tb_of (tb3 132 rfl) rfl), (tb_of (tb3 135 rfl) rfl), (tb_of (tb1 3 rfl) rfl), (tb_of (tb3 133 rfl) rfl), (tb_of (tb3 134 rfl) rfl)⟩
theorem clX9_29 : CLv RX9 29 yX9_beginVisit cX9_beginVisit 3 ((Option.some FieldType.int)) := ⟨(tb_of (tb3 136 rfl) rfl), (tb_of (tb3 139 rfl) rfl), (tb_of (tb1 3 rfl) rfl), (tb_of (tb3 138 rfl) rfl), (tbp (lwp1 9 rfl) rfl)⟩
theorem clX9_109 : CLv RX9 109 yX9_beginRun cX9_beginRun 4 ((Option.none : Option FieldType)) := ⟨(tb_of (tb3 140 rfl) rfl), (tb_of (tb3 143 rfl) rfl), (tb_of (tb1 3 rfl) rfl), (tb_of (tb3 142 rfl) rfl), (tbp (lwp1 10 rfl) rfl)⟩
theorem clX9_116 : CLv RX9 116 yX9_act cX9_act 3 ((Option.some FieldType.int)) := ⟨(tb_of (tb3 144 rfl) rfl), (tb_of (tb3 147 rfl) rfl), (tb_of (tb1 3 rfl) rfl), (tb_of (tb3 146 rfl) rfl), (tbp (lwp1 11 rfl) rfl)⟩
theorem clX9_98 : CLv RX9 98 yX0_change cX0_change 3 ((Option.none : Option FieldType)) := ⟨(tb_of (tb3 148 rfl) rfl), (tb_of (tb3 151 rfl) rfl), (tb_of (tb1 4 rfl) rfl), (tb_of (tb3 149 rfl) rfl), (tb_of (tb3 150 rfl) rfl)⟩
theorem clX0_42 : CLv RX0 42 yX0_valueIn cX0_valueIn 3 ((Option.some FieldType.int)) := ⟨(tb_of (tb3 152 rfl) rfl), (tb_of (tb3 117 rfl) rfl), (tb_of (tb1 4 rfl) rfl), (tb_of (tb3 115 rfl) rfl), (tb_of (tb3 116 rfl) rfl)⟩
theorem clX0_53 : CLs RX0 53 yJ9_min_7cf53 cJ9_min_7cf53 2 ((Option.some FieldType.int)) := ⟨(tb_of (tb3 153 rfl) rfl), (tb_of (tb2 209 rfl) rfl), (tb_of (tb1 15 rfl) rfl), (tb_of (tb2 208 rfl) rfl)⟩
theorem clX0_59 : CLs RX0 59 yJ9_max_7cf53 cJ9_max_7cf53 2 ((Option.some FieldType.int)) := ⟨(tb_of (tb3 154 rfl) rfl), (tb_of (tb2 206 rfl) rfl), (tb_of (tb1 15 rfl) rfl), (tb_of (tb2 205 rfl) rfl)⟩
theorem clX0_62 : CLv RX0 62 yX0_put cX0_put 4 ((Option.none : Option FieldType)) := ⟨(tb_of (tb3 155 rfl) rfl), (tb_of (tb3 121 rfl) rfl), (tb_of (tb1 4 rfl) rfl), (tb_of (tb3 119 rfl) rfl), (tb_of (tb3 120 rfl) rfl)⟩
theorem clX9_123 : CLv RX9 123 yX0_fulfils cX0_fulfils 3 ((Option.some FieldType.boolean)) := ⟨(tb_of (tb3 156 rfl) rfl), (tb_of (tb3 159 rfl) rfl), (tb_of (tb1 4 rfl) rfl), (tb_of (tb3 157 rfl) rfl), (tb_of (tb3 158 rfl) rfl)⟩
theorem clX9_130 : CLv RX9 130 yX9_goDown cX9_goDown 2 ((Option.some FieldType.int)) := ⟨(tb_of (tb3 160 rfl) rfl), (tb_of (tb3 163 rfl) rfl), (tb_of (tb1 3 rfl) rfl), (tb_of (tb3 162 rfl) rfl), (tbp (lwp1 12 rfl) rfl)⟩
theorem clX9_136 : CLv RX9 136 yX9_goOnInParallel cX9_goOnInParallel 6 ((Option.some FieldType.int)) := ⟨(tb_of (tb3 164 rfl) rfl), (tb_of (tb3 167 rfl) rfl), (tb_of (tb1 3 rfl) rfl), (tb_of (tb3 166 rfl) rfl), (tbp (lwp1 13 rfl) rfl)⟩
theorem clX9_162 : CLv RX9 162 yX9_stopBack cX9_stopBack 4 ((Option.none : Option FieldType)) := ⟨(tb_of (tb3 168 rfl) rfl), (tb_of (tb3 171 rfl) rfl), (tb_of (tb1 3 rfl) rfl), (tb_of (tb3 169 rfl) rfl), (tb_of (tb3 170 rfl) rfl)⟩
theorem clX9_70 : CLv RX9 70 yX9_endRun cX9_endRun 4 ((Option.none : Option FieldType)) := ⟨(tb_of (tb3 172 rfl) rfl), (tb_of (tb3 175 rfl) rfl), (tb_of (tb1 3 rfl) rfl), (tb_of (tb3 174 rfl) rfl), (tbp (lwp1 14 rfl) rfl)⟩
theorem clX9_86 : CLv RX9 86 yX2_enter cX2_enter 4 ((Option.none : Option FieldType)) := ⟨(tb_of (tb3 176 rfl) rfl), (tb_of (tb3 179 rfl) rfl), (tb_of (tb1 5 rfl) rfl), (tb_of (tb3 177 rfl) rfl), (tb_of (tb3 178 rfl) rfl)⟩
theorem clX2_53 : CLs RX2 53 yJ9_floorMod_7cf53 cJ9_floorMod_7cf53 3 ((Option.some FieldType.int)) := ⟨(tb_of (tb3 180 rfl) rfl), (tb_of (tb3 182 rfl) rfl), (tb_of (tb1 15 rfl) rfl), (tb_of (tb3 181 rfl) rfl)⟩
theorem clX9_140 : CLv RX9 140 yX9_goDownIf cX9_goDownIf 3 ((Option.some FieldType.int)) := ⟨(tb_of (tb3 183 rfl) rfl), (tb_of (tb3 186 rfl) rfl), (tb_of (tb1 3 rfl) rfl), (tb_of (tb3 185 rfl) rfl), (tbp (lwp1 15 rfl) rfl)⟩
theorem clX9_33 : CLv RX9 33 yX9_endVisit cX9_endVisit 3 ((Option.none : Option FieldType)) := ⟨(tb_of (tb3 187 rfl) rfl), (tb_of (tb3 190 rfl) rfl), (tb_of (tb1 3 rfl) rfl), (tb_of (tb3 189 rfl) rfl), (tbp (lwp2 0 rfl) rfl)⟩
theorem clX9_42 : CLv RX9 42 yX9_goOn cX9_goOn 4 ((Option.some FieldType.int)) := ⟨(tb_of (tb3 191 rfl) rfl), (tb_of (tb3 194 rfl) rfl), (tb_of (tb1 3 rfl) rfl), (tb_of (tb3 193 rfl) rfl), (tbp (lwp2 1 rfl) rfl)⟩
theorem clX9_166 : CLv RX9 166 yX9_goOnInList cX9_goOnInList 6 ((Option.some FieldType.int)) := ⟨(tb_of (tb3 195 rfl) rfl), (tb_of (tb3 198 rfl) rfl), (tb_of (tb1 3 rfl) rfl), (tb_of (tb3 197 rfl) rfl), (tbp (lwp2 2 rfl) rfl)⟩
theorem clX9_174 : CLv RX9 174 yX4_isReactive cX4_isReactive 1 ((Option.some FieldType.boolean)) := ⟨(tb_of (tb3 199 rfl) rfl), (tb_of (tb3 202 rfl) rfl), (tb_of (tb1 9 rfl) rfl), (tb_of (tb3 200 rfl) rfl), (tb_of (tb3 201 rfl) rfl)⟩
theorem clX9_170 : CLv RX9 170 yX9_countResult cX9_countResult 4 ((Option.some FieldType.int)) := ⟨(tb_of (tb3 203 rfl) rfl), (tb_of (tb3 206 rfl) rfl), (tb_of (tb1 3 rfl) rfl), (tb_of (tb3 205 rfl) rfl), (tbp (lwp2 3 rfl) rfl)⟩
theorem clX9_46 : CLv RX9 46 yX2_endTick cX2_endTick 2 ((Option.none : Option FieldType)) := ⟨(tb_of (tb3 207 rfl) rfl), (tb_of (tb3 210 rfl) rfl), (tb_of (tb1 5 rfl) rfl), (tb_of (tb3 208 rfl) rfl), (tb_of (tb3 209 rfl) rfl)⟩
theorem clL_36 : CLv RL 36 yX11_run cX11_run 5 ((Option.some FieldType.int)) := ⟨(tb_of (tb3 211 rfl) rfl), (tb_of (tb3 214 rfl) rfl), (tb_of (tb1 1 rfl) rfl), (tb_of (tb3 212 rfl) rfl), (tb_of (tb3 213 rfl) rfl)⟩
theorem clL_40 : CLv RL 40 yX11_foresee cX11_foresee 3 ((Option.some FieldType.int)) := ⟨(tb_of (tb3 216 rfl) rfl), (tb_of (tb3 219 rfl) rfl), (tb_of (tb1 1 rfl) rfl), (tb_of (tb3 217 rfl) rfl), (tb_of (tb3 218 rfl) rfl)⟩
theorem clX11_106 : CLv RX11 106 yX6_take cX6_take 6 ((Option.none : Option FieldType)) := ⟨(tb_of (tb3 220 rfl) rfl), (tb_of (tb3 223 rfl) rfl), (tb_of (tb1 6 rfl) rfl), (tb_of (tb3 221 rfl) rfl), (tb_of (tb3 222 rfl) rfl)⟩
theorem clX6_32 : CLv RX6 32 yX8_nodeAt cX8_nodeAt 2 ((Option.some (FieldType.object "BehaviorRunner$Node"))) := ⟨(tb_of (tb3 224 rfl) rfl), (tb_of (tb3 29 rfl) rfl), (tb_of (tb1 8 rfl) rfl), (tb_of (tb3 27 rfl) rfl), (tb_of (tb3 28 rfl) rfl)⟩
theorem clX6_44 : CLv RX6 44 yX3_copyFrom cX3_copyFrom 2 ((Option.none : Option FieldType)) := ⟨(tb_of (tb3 225 rfl) rfl), (tb_of (tb3 228 rfl) rfl), (tb_of (tb1 7 rfl) rfl), (tb_of (tb3 226 rfl) rfl), (tb_of (tb3 227 rfl) rfl)⟩
theorem clX6_48 : CLv RX6 48 yX0_copyFrom cX0_copyFrom 2 ((Option.none : Option FieldType)) := ⟨(tb_of (tb3 229 rfl) rfl), (tb_of (tb3 232 rfl) rfl), (tb_of (tb1 4 rfl) rfl), (tb_of (tb3 230 rfl) rfl), (tb_of (tb3 231 rfl) rfl)⟩
theorem clX6_51 : CLv RX6 51 yX2_copyFrom cX2_copyFrom 2 ((Option.none : Option FieldType)) := ⟨(tb_of (tb3 236 rfl) rfl), (tb_of (tb3 239 rfl) rfl), (tb_of (tb1 5 rfl) rfl), (tb_of (tb3 237 rfl) rfl), (tb_of (tb3 238 rfl) rfl)⟩
theorem clX11_110 : CLv RX11 110 yX6_giveBack cX6_giveBack 6 ((Option.none : Option FieldType)) := ⟨(tb_of (tb4 1 rfl) rfl), (tb_of (tb4 4 rfl) rfl), (tb_of (tb1 6 rfl) rfl), (tb_of (tb4 2 rfl) rfl), (tb_of (tb4 3 rfl) rfl)⟩
theorem clL_44 : CLv RL 44 yX11_ticksToGo cX11_ticksToGo 4 ((Option.some FieldType.int)) := ⟨(tb_of (tb4 5 rfl) rfl), (tb_of (tb4 8 rfl) rfl), (tb_of (tb1 1 rfl) rfl), (tb_of (tb4 6 rfl) rfl), (tb_of (tb4 7 rfl) rfl)⟩
theorem clL_48 : CLv RL 48 yX11_abort cX11_abort 3 ((Option.some FieldType.int)) := ⟨(tb_of (tb4 9 rfl) rfl), (tb_of (tb4 12 rfl) rfl), (tb_of (tb1 1 rfl) rfl), (tb_of (tb4 10 rfl) rfl), (tb_of (tb4 11 rfl) rfl)⟩
theorem clX11_116 : CLv RX11 116 yX9_stopBack cX9_stopBack 4 ((Option.none : Option FieldType)) := ⟨(tb_of (tb4 13 rfl) rfl), (tb_of (tb3 171 rfl) rfl), (tb_of (tb1 3 rfl) rfl), (tb_of (tb3 169 rfl) rfl), (tb_of (tb3 170 rfl) rfl)⟩
theorem clL_52 : CLv RL 52 yX11_node cX11_node 5 ((Option.some FieldType.int)) := ⟨(tb_of (tb4 14 rfl) rfl), (tb_of (tb4 17 rfl) rfl), (tb_of (tb1 1 rfl) rfl), (tb_of (tb4 15 rfl) rfl), (tb_of (tb4 16 rfl) rfl)⟩
theorem clL_56 : CLv RL 56 yX11_child cX11_child 6 ((Option.some FieldType.int)) := ⟨(tb_of (tb4 18 rfl) rfl), (tb_of (tb4 21 rfl) rfl), (tb_of (tb1 1 rfl) rfl), (tb_of (tb4 19 rfl) rfl), (tb_of (tb4 20 rfl) rfl)⟩
theorem clL_60 : CLv RL 60 yX11_underWay cX11_underWay 3 ((Option.some FieldType.int)) := ⟨(tb_of (tb4 22 rfl) rfl), (tb_of (tb4 25 rfl) rfl), (tb_of (tb1 1 rfl) rfl), (tb_of (tb4 23 rfl) rfl), (tb_of (tb4 24 rfl) rfl)⟩
theorem clL_64 : CLv RL 64 yX11_pending cX11_pending 1 ((Option.some FieldType.int)) := ⟨(tb_of (tb4 26 rfl) rfl), (tb_of (tb4 29 rfl) rfl), (tb_of (tb1 1 rfl) rfl), (tb_of (tb4 27 rfl) rfl), (tb_of (tb4 28 rfl) rfl)⟩
theorem clL_68 : CLv RL 68 yX11_trace cX11_trace 3 ((Option.some FieldType.int)) := ⟨(tb_of (tb4 30 rfl) rfl), (tb_of (tb4 33 rfl) rfl), (tb_of (tb1 1 rfl) rfl), (tb_of (tb4 31 rfl) rfl), (tb_of (tb4 32 rfl) rfl)⟩
theorem clX11_173 : CLv RX11 173 yX2_entries cX2_entries 1 ((Option.some FieldType.int)) := ⟨(tb_of (tb4 34 rfl) rfl), (tb_of (tb4 37 rfl) rfl), (tb_of (tb1 5 rfl) rfl), (tb_of (tb4 35 rfl) rfl), (tb_of (tb4 36 rfl) rfl)⟩
theorem clX2_64 : CLs RX2 64 yJ9_min_7cf53 cJ9_min_7cf53 2 ((Option.some FieldType.int)) := ⟨(tb_of (tb4 38 rfl) rfl), (tb_of (tb2 209 rfl) rfl), (tb_of (tb1 15 rfl) rfl), (tb_of (tb2 208 rfl) rfl)⟩
theorem clX11_176 : CLv RX11 176 yX2_tracedNode cX2_tracedNode 2 ((Option.some FieldType.int)) := ⟨(tb_of (tb4 39 rfl) rfl), (tb_of (tb4 42 rfl) rfl), (tb_of (tb1 5 rfl) rfl), (tb_of (tb4 40 rfl) rfl), (tb_of (tb4 41 rfl) rfl)⟩
theorem clX2_67 : CLv RX2 67 yX2_placeOf cX2_placeOf 2 ((Option.some FieldType.int)) := ⟨(tb_of (tb4 43 rfl) rfl), (tb_of (tb4 46 rfl) rfl), (tb_of (tb1 5 rfl) rfl), (tb_of (tb4 45 rfl) rfl), (tbp (lwp2 4 rfl) rfl)⟩
theorem clX11_180 : CLv RX11 180 yX2_tracedResult cX2_tracedResult 2 ((Option.some FieldType.int)) := ⟨(tb_of (tb4 47 rfl) rfl), (tb_of (tb4 50 rfl) rfl), (tb_of (tb1 5 rfl) rfl), (tb_of (tb4 48 rfl) rfl), (tb_of (tb4 49 rfl) rfl)⟩
theorem clL_72 : CLv RL 72 yX11_count cX11_count 2 ((Option.some FieldType.int)) := ⟨(tb_of (tb4 51 rfl) rfl), (tb_of (tb4 54 rfl) rfl), (tb_of (tb1 1 rfl) rfl), (tb_of (tb4 52 rfl) rfl), (tb_of (tb4 53 rfl) rfl)⟩
theorem clX11_195 : CLv RX11 195 yX8_runningNodes cX8_runningNodes 3 ((Option.some FieldType.int)) := ⟨(tb_of (tb4 55 rfl) rfl), (tb_of (tb4 58 rfl) rfl), (tb_of (tb1 8 rfl) rfl), (tb_of (tb4 56 rfl) rfl), (tb_of (tb4 57 rfl) rfl)⟩
theorem clL_76 : CLv RL 76 yX11_write cX11_write 1 ((Option.some FieldType.int)) := ⟨(tb_of (tb4 59 rfl) rfl), (tb_of (tb4 62 rfl) rfl), (tb_of (tb1 1 rfl) rfl), (tb_of (tb4 60 rfl) rfl), (tb_of (tb4 61 rfl) rfl)⟩
theorem clX11_206 : CLv RX11 206 yX10_writeTree cX10_writeTree 3 ((Option.none : Option FieldType)) := ⟨(tb_of (tb4 76 rfl) rfl), (tb_of (tb4 79 rfl) rfl), (tb_of (tb1 20 rfl) rfl), (tb_of (tb4 77 rfl) rfl), (tb_of (tb4 78 rfl) rfl)⟩
theorem clX10_19 : CLv RX10 19 yX7_clear cX7_clear 1 ((Option.none : Option FieldType)) := ⟨(tb_of (tb4 80 rfl) rfl), (tb_of (tb3 104 rfl) rfl), (tb_of (tb1 2 rfl) rfl), (tb_of (tb3 102 rfl) rfl), (tb_of (tb3 103 rfl) rfl)⟩
theorem clX10_24 : CLv RX10 24 yX8_nodeAt cX8_nodeAt 2 ((Option.some (FieldType.object "BehaviorRunner$Node"))) := ⟨(tb_of (tb4 81 rfl) rfl), (tb_of (tb3 29 rfl) rfl), (tb_of (tb1 8 rfl) rfl), (tb_of (tb3 27 rfl) rfl), (tb_of (tb3 28 rfl) rfl)⟩
theorem clX10_30 : CLv RX10 30 yX10_writeHead cX10_writeHead 2 ((Option.none : Option FieldType)) := ⟨(tb_of (tb4 82 rfl) rfl), (tb_of (tb4 85 rfl) rfl), (tb_of (tb1 20 rfl) rfl), (tb_of (tb4 84 rfl) rfl), (tbp (lwp2 5 rfl) rfl)⟩
theorem clX10_45 : CLv RX10 45 yJ0_length_8abf5 cJ0_length_8abf5 1 ((Option.some FieldType.int)) := ⟨(tb_of (tb4 87 rfl) rfl), (tb_of (tb2 193 rfl) rfl), (tb_of (tb1 13 rfl) rfl), (tb_of (tb2 191 rfl) rfl), (tb_of (tb2 192 rfl) rfl)⟩
theorem clX10_51 : CLv RX10 51 yJ0_charAt_5068e cJ0_charAt_5068e 2 ((Option.some FieldType.char)) := ⟨(tb_of (tb4 88 rfl) rfl), (tb_of (tb3 71 rfl) rfl), (tb_of (tb1 13 rfl) rfl), (tb_of (tb3 69 rfl) rfl), (tb_of (tb3 70 rfl) rfl)⟩
theorem clX10_55 : CLv RX10 55 yX7_add cX7_add 2 ((Option.none : Option FieldType)) := ⟨(tb_of (tb4 89 rfl) rfl), (tb_of (tb2 138 rfl) rfl), (tb_of (tb1 2 rfl) rfl), (tb_of (tb2 136 rfl) rfl), (tb_of (tb2 137 rfl) rfl)⟩
theorem clX10_59 : CLv RX10 59 yX10_hasNumber cX10_hasNumber 2 ((Option.some FieldType.boolean)) := ⟨(tb_of (tb4 90 rfl) rfl), (tb_of (tb4 93 rfl) rfl), (tb_of (tb1 20 rfl) rfl), (tb_of (tb4 92 rfl) rfl), (tbp (lwp2 6 rfl) rfl)⟩
theorem clX10_66 : CLv RX10 66 yX10_writeNumber cX10_writeNumber 2 ((Option.none : Option FieldType)) := ⟨(tb_of (tb4 94 rfl) rfl), (tb_of (tb4 97 rfl) rfl), (tb_of (tb1 20 rfl) rfl), (tb_of (tb4 96 rfl) rfl), (tbp (lwp2 7 rfl) rfl)⟩
theorem clX10_80 : CLv RX10 80 yX10_writeClause cX10_writeClause 2 ((Option.none : Option FieldType)) := ⟨(tb_of (tb4 98 rfl) rfl), (tb_of (tb4 101 rfl) rfl), (tb_of (tb1 20 rfl) rfl), (tb_of (tb4 100 rfl) rfl), (tbp (lwp2 8 rfl) rfl)⟩
theorem clX10_87 : CLv RX10 87 yX4_hasList cX4_hasList 1 ((Option.some FieldType.boolean)) := ⟨(tb_of (tb4 102 rfl) rfl), (tb_of (tb4 105 rfl) rfl), (tb_of (tb1 9 rfl) rfl), (tb_of (tb4 103 rfl) rfl), (tb_of (tb4 104 rfl) rfl)⟩
theorem clX10_34 : CLv RX10 34 yX10_writeBehind cX10_writeBehind 3 ((Option.none : Option FieldType)) := ⟨(tb_of (tb4 106 rfl) rfl), (tb_of (tb4 109 rfl) rfl), (tb_of (tb1 20 rfl) rfl), (tb_of (tb4 108 rfl) rfl), (tbp (lwp2 9 rfl) rfl)⟩
theorem clL_80 : CLv RL 80 yX11_written cX11_written 3 ((Option.some FieldType.int)) := ⟨(tb_of (tb4 110 rfl) rfl), (tb_of (tb4 113 rfl) rfl), (tb_of (tb1 1 rfl) rfl), (tb_of (tb4 111 rfl) rfl), (tb_of (tb4 112 rfl) rfl)⟩
theorem clX11_209 : CLv RX11 209 yX7_codeAt cX7_codeAt 2 ((Option.some FieldType.int)) := ⟨(tb_of (tb4 114 rfl) rfl), (tb_of (tb2 175 rfl) rfl), (tb_of (tb1 2 rfl) rfl), (tb_of (tb2 173 rfl) rfl), (tb_of (tb2 174 rfl) rfl)⟩
theorem clL_84 : CLv RL 84 yX11_save cX11_save 1 ((Option.some FieldType.int)) := ⟨(tb_of (tb4 115 rfl) rfl), (tb_of (tb4 118 rfl) rfl), (tb_of (tb1 1 rfl) rfl), (tb_of (tb4 116 rfl) rfl), (tb_of (tb4 117 rfl) rfl)⟩
theorem clL_88 : CLv RL 88 yX11_restore cX11_restore 1 ((Option.some FieldType.int)) := ⟨(tb_of (tb4 119 rfl) rfl), (tb_of (tb4 122 rfl) rfl), (tb_of (tb1 1 rfl) rfl), (tb_of (tb4 120 rfl) rfl), (tb_of (tb4 121 rfl) rfl)⟩
theorem clL_17 : CLv RL 17 yX12_append cX12_append 4 ((Option.some FieldType.int)) := ⟨(tb_of (tb5 6 rfl) rfl), (tb_of (tb5 9 rfl) rfl), (tb_of (tb1 11 rfl) rfl), (tb_of (tb5 7 rfl) rfl), (tb_of (tb5 8 rfl) rfl)⟩
theorem clX12_94 : CLs RX12 94 yX12_isIn cX12_isIn 3 ((Option.some FieldType.boolean)) := ⟨(tb_of (tb5 10 rfl) rfl), (tb_of (tb5 12 rfl) rfl), (tb_of (tb1 11 rfl) rfl), (tb_of (tb5 11 rfl) rfl)⟩
theorem clL_22 : CLv RL 22 yX12_readTree cX12_readTree 2 ((Option.some FieldType.int)) := ⟨(tb_of (tb5 13 rfl) rfl), (tb_of (tb5 16 rfl) rfl), (tb_of (tb1 11 rfl) rfl), (tb_of (tb5 14 rfl) rfl), (tb_of (tb5 15 rfl) rfl)⟩
theorem clX12_149 : CLv RX12 149 yX12_begins cX12_begins 3 ((Option.none : Option FieldType)) := ⟨(tb_of (tb5 17 rfl) rfl), (tb_of (tb5 20 rfl) rfl), (tb_of (tb1 11 rfl) rfl), (tb_of (tb5 19 rfl) rfl), (tbp (lwp2 10 rfl) rfl)⟩
theorem clX12_105 : CLv RX12 105 yX12_here cX12_here 1 ((Option.some FieldType.int)) := ⟨(tb_of (tb5 21 rfl) rfl), (tb_of (tb5 24 rfl) rfl), (tb_of (tb1 11 rfl) rfl), (tb_of (tb5 23 rfl) rfl), (tbp (lwp2 11 rfl) rfl)⟩
theorem clX12_124 : CLs RX12 124 yX12_kindOf cX12_kindOf 1 ((Option.some FieldType.int)) := ⟨(tb_of (tb5 25 rfl) rfl), (tb_of (tb5 27 rfl) rfl), (tb_of (tb1 11 rfl) rfl), (tb_of (tb5 26 rfl) rfl)⟩
theorem clX12_113 : CLv RX12 113 yX12_digit cX12_digit 4 ((Option.some FieldType.int)) := ⟨(tb_of (tb5 28 rfl) rfl), (tb_of (tb5 31 rfl) rfl), (tb_of (tb1 11 rfl) rfl), (tb_of (tb5 30 rfl) rfl), (tbp (lwp2 12 rfl) rfl)⟩
theorem clX12_134 : CLv RX12 134 yX12_deed cX12_deed 3 ((Option.none : Option FieldType)) := ⟨(tb_of (tb5 32 rfl) rfl), (tb_of (tb5 35 rfl) rfl), (tb_of (tb1 11 rfl) rfl), (tb_of (tb5 34 rfl) rfl), (tbp (lwp2 13 rfl) rfl)⟩
theorem clX12_117 : CLv RX12 117 yX12_sign cX12_sign 4 ((Option.some FieldType.int)) := ⟨(tb_of (tb5 36 rfl) rfl), (tb_of (tb5 39 rfl) rfl), (tb_of (tb1 11 rfl) rfl), (tb_of (tb5 38 rfl) rfl), (tbp (lwp2 14 rfl) rfl)⟩
theorem clX12_121 : CLv RX12 121 yX12_worth cX12_worth 2 ((Option.some FieldType.int)) := ⟨(tb_of (tb5 40 rfl) rfl), (tb_of (tb5 43 rfl) rfl), (tb_of (tb1 11 rfl) rfl), (tb_of (tb5 42 rfl) rfl), (tbp (lwp2 15 rfl) rfl)⟩
theorem clX12_138 : CLv RX12 138 yX12_end cX12_end 2 ((Option.none : Option FieldType)) := ⟨(tb_of (tb5 44 rfl) rfl), (tb_of (tb5 47 rfl) rfl), (tb_of (tb1 11 rfl) rfl), (tb_of (tb5 46 rfl) rfl), (tbp (lwp3 0 rfl) rfl)⟩
theorem clX12_142 : CLs RX12 142 yX12_isList cX12_isList 1 ((Option.some FieldType.boolean)) := ⟨(tb_of (tb5 48 rfl) rfl), (tb_of (tb5 50 rfl) rfl), (tb_of (tb1 11 rfl) rfl), (tb_of (tb5 49 rfl) rfl)⟩
theorem clX12_152 : CLv RX12 152 yX12_goesUp cX12_goesUp 3 ((Option.none : Option FieldType)) := ⟨(tb_of (tb5 51 rfl) rfl), (tb_of (tb5 54 rfl) rfl), (tb_of (tb1 11 rfl) rfl), (tb_of (tb5 53 rfl) rfl), (tbp (lwp3 1 rfl) rfl)⟩
theorem clL_26 : CLv RL 26 yX12_set cX12_set 4 ((Option.some FieldType.int)) := ⟨(tb_of (tb5 55 rfl) rfl), (tb_of (tb5 58 rfl) rfl), (tb_of (tb1 11 rfl) rfl), (tb_of (tb5 56 rfl) rfl), (tb_of (tb5 57 rfl) rfl)⟩
theorem clL_30 : CLv RL 30 yX12_value cX12_value 3 ((Option.some FieldType.int)) := ⟨(tb_of (tb5 59 rfl) rfl), (tb_of (tb5 62 rfl) rfl), (tb_of (tb1 11 rfl) rfl), (tb_of (tb5 60 rfl) rfl), (tb_of (tb5 61 rfl) rfl)⟩
theorem clX12_161 : CLv RX12 161 yX12_place cX12_place 4 ((Option.some FieldType.int)) := ⟨(tb_of (tb5 63 rfl) rfl), (tb_of (tb5 66 rfl) rfl), (tb_of (tb1 11 rfl) rfl), (tb_of (tb5 65 rfl) rfl), (tbp (lwp3 2 rfl) rfl)⟩
theorem clL_35 : CLv RL 35 yX12_tick cX12_tick 2 ((Option.some FieldType.int)) := ⟨(tb_of (tb5 67 rfl) rfl), (tb_of (tb5 70 rfl) rfl), (tb_of (tb1 11 rfl) rfl), (tb_of (tb5 68 rfl) rfl), (tb_of (tb5 69 rfl) rfl)⟩
theorem clX12_225 : CLv RX12 225 yX12_goes cX12_goes 5 ((Option.some FieldType.int)) := ⟨(tb_of (tb5 71 rfl) rfl), (tb_of (tb5 74 rfl) rfl), (tb_of (tb1 11 rfl) rfl), (tb_of (tb5 73 rfl) rfl), (tbp (lwp3 3 rfl) rfl)⟩
theorem clX12_213 : CLv RX12 213 yX12_enters cX12_enters 3 ((Option.some FieldType.int)) := ⟨(tb_of (tb5 75 rfl) rfl), (tb_of (tb5 78 rfl) rfl), (tb_of (tb1 11 rfl) rfl), (tb_of (tb5 77 rfl) rfl), (tbp (lwp3 4 rfl) rfl)⟩
theorem clX12_175 : CLv RX12 175 yX12_adds cX12_adds 3 ((Option.none : Option FieldType)) := ⟨(tb_of (tb5 79 rfl) rfl), (tb_of (tb5 82 rfl) rfl), (tb_of (tb1 11 rfl) rfl), (tb_of (tb5 81 rfl) rfl), (tbp (lwp3 5 rfl) rfl)⟩
theorem clX12_168 : CLv RX12 168 yX12_of cX12_of 3 ((Option.some FieldType.int)) := ⟨(tb_of (tb5 83 rfl) rfl), (tb_of (tb5 86 rfl) rfl), (tb_of (tb1 11 rfl) rfl), (tb_of (tb5 85 rfl) rfl), (tbp (lwp3 6 rfl) rfl)⟩
theorem clX12_171 : CLv RX12 171 yX12_sets cX12_sets 4 ((Option.none : Option FieldType)) := ⟨(tb_of (tb5 87 rfl) rfl), (tb_of (tb5 90 rfl) rfl), (tb_of (tb1 11 rfl) rfl), (tb_of (tb5 89 rfl) rfl), (tbp (lwp3 7 rfl) rfl)⟩
theorem clX12_188 : CLv RX12 188 yX12_acts cX12_acts 2 ((Option.some FieldType.int)) := ⟨(tb_of (tb5 91 rfl) rfl), (tb_of (tb5 94 rfl) rfl), (tb_of (tb1 11 rfl) rfl), (tb_of (tb5 93 rfl) rfl), (tbp (lwp3 8 rfl) rfl)⟩
theorem clX12_164 : CLv RX12 164 yX12_does cX12_does 7 ((Option.none : Option FieldType)) := ⟨(tb_of (tb5 95 rfl) rfl), (tb_of (tb5 98 rfl) rfl), (tb_of (tb1 11 rfl) rfl), (tb_of (tb5 97 rfl) rfl), (tbp (lwp3 9 rfl) rfl)⟩
theorem clX12_191 : CLv RX12 191 yX12_holds cX12_holds 3 ((Option.some FieldType.boolean)) := ⟨(tb_of (tb5 99 rfl) rfl), (tb_of (tb5 102 rfl) rfl), (tb_of (tb1 11 rfl) rfl), (tb_of (tb5 101 rfl) rfl), (tbp (lwp3 10 rfl) rfl)⟩
theorem clX12_194 : CLv RX12 194 yX12_asks cX12_asks 3 ((Option.some FieldType.int)) := ⟨(tb_of (tb5 103 rfl) rfl), (tb_of (tb5 106 rfl) rfl), (tb_of (tb1 11 rfl) rfl), (tb_of (tb5 105 rfl) rfl), (tbp (lwp3 11 rfl) rfl)⟩
theorem clX12_185 : CLv RX12 185 yX12_childOf cX12_childOf 5 ((Option.some FieldType.int)) := ⟨(tb_of (tb5 107 rfl) rfl), (tb_of (tb5 110 rfl) rfl), (tb_of (tb1 11 rfl) rfl), (tb_of (tb5 109 rfl) rfl), (tbp (lwp3 12 rfl) rfl)⟩
theorem clX12_197 : CLv RX12 197 yX12_goesOn cX12_goesOn 7 ((Option.some FieldType.int)) := ⟨(tb_of (tb5 111 rfl) rfl), (tb_of (tb5 114 rfl) rfl), (tb_of (tb1 11 rfl) rfl), (tb_of (tb5 113 rfl) rfl), (tbp (lwp3 13 rfl) rfl)⟩
theorem clX12_203 : CLv RX12 203 yX12_children cX12_children 3 ((Option.some FieldType.int)) := ⟨(tb_of (tb5 115 rfl) rfl), (tb_of (tb5 118 rfl) rfl), (tb_of (tb1 11 rfl) rfl), (tb_of (tb5 117 rfl) rfl), (tbp (lwp3 14 rfl) rfl)⟩
theorem clX12_206 : CLs RX12 206 yX12_bits cX12_bits 3 ((Option.some FieldType.int)) := ⟨(tb_of (tb5 119 rfl) rfl), (tb_of (tb5 121 rfl) rfl), (tb_of (tb1 11 rfl) rfl), (tb_of (tb5 120 rfl) rfl)⟩
theorem clX12_200 : CLv RX12 200 yX12_aborts cX12_aborts 4 ((Option.some FieldType.int)) := ⟨(tb_of (tb5 122 rfl) rfl), (tb_of (tb5 125 rfl) rfl), (tb_of (tb1 11 rfl) rfl), (tb_of (tb5 124 rfl) rfl), (tbp (lwp3 15 rfl) rfl)⟩
theorem clX12_179 : CLv RX12 179 yX12_tells cX12_tells 4 ((Option.none : Option FieldType)) := ⟨(tb_of (tb5 126 rfl) rfl), (tb_of (tb5 129 rfl) rfl), (tb_of (tb1 11 rfl) rfl), (tb_of (tb5 128 rfl) rfl), (tbp (lwp4 0 rfl) rfl)⟩
theorem clX12_182 : CLv RX12 182 yX12_ends cX12_ends 2 ((Option.none : Option FieldType)) := ⟨(tb_of (tb5 130 rfl) rfl), (tb_of (tb5 133 rfl) rfl), (tb_of (tb1 11 rfl) rfl), (tb_of (tb5 132 rfl) rfl), (tbp (lwp4 1 rfl) rfl)⟩
theorem clX12_216 : CLv RX12 216 yX12_leaves cX12_leaves 3 ((Option.none : Option FieldType)) := ⟨(tb_of (tb5 134 rfl) rfl), (tb_of (tb5 137 rfl) rfl), (tb_of (tb1 11 rfl) rfl), (tb_of (tb5 136 rfl) rfl), (tbp (lwp4 2 rfl) rfl)⟩
theorem clX12_219 : CLv RX12 219 yX12_ticked cX12_ticked 2 ((Option.some FieldType.int)) := ⟨(tb_of (tb5 138 rfl) rfl), (tb_of (tb5 141 rfl) rfl), (tb_of (tb1 11 rfl) rfl), (tb_of (tb5 140 rfl) rfl), (tbp (lwp4 3 rfl) rfl)⟩
theorem clX12_222 : CLv RX12 222 yX12_hears cX12_hears 7 ((Option.some FieldType.int)) := ⟨(tb_of (tb5 142 rfl) rfl), (tb_of (tb5 145 rfl) rfl), (tb_of (tb1 11 rfl) rfl), (tb_of (tb5 144 rfl) rfl), (tbp (lwp4 4 rfl) rfl)⟩
theorem clX12_209 : CLv RX12 209 yX12_counts cX12_counts 4 ((Option.some FieldType.int)) := ⟨(tb_of (tb5 146 rfl) rfl), (tb_of (tb5 149 rfl) rfl), (tb_of (tb1 11 rfl) rfl), (tb_of (tb5 148 rfl) rfl), (tbp (lwp4 5 rfl) rfl)⟩
theorem clL_39 : CLv RL 39 yX12_run cX12_run 2 ((Option.some FieldType.int)) := ⟨(tb_of (tb5 150 rfl) rfl), (tb_of (tb5 153 rfl) rfl), (tb_of (tb1 11 rfl) rfl), (tb_of (tb5 151 rfl) rfl), (tb_of (tb5 152 rfl) rfl)⟩
theorem clX12_231 : CLv RX12 231 yX12_runs cX12_runs 3 ((Option.some FieldType.int)) := ⟨(tb_of (tb5 154 rfl) rfl), (tb_of (tb5 157 rfl) rfl), (tb_of (tb1 11 rfl) rfl), (tb_of (tb5 156 rfl) rfl), (tbp (lwp4 6 rfl) rfl)⟩
theorem clL_43 : CLv RL 43 yX12_foresee cX12_foresee 2 ((Option.some FieldType.int)) := ⟨(tb_of (tb5 158 rfl) rfl), (tb_of (tb5 161 rfl) rfl), (tb_of (tb1 11 rfl) rfl), (tb_of (tb5 159 rfl) rfl), (tb_of (tb5 160 rfl) rfl)⟩
theorem clX12_234 : CLs RX12 234 yX12_copies cX12_copies 3 ((Option.none : Option FieldType)) := ⟨(tb_of (tb5 162 rfl) rfl), (tb_of (tb5 164 rfl) rfl), (tb_of (tb1 11 rfl) rfl), (tb_of (tb5 163 rfl) rfl)⟩
theorem clL_47 : CLv RL 47 yX12_ticksToGo cX12_ticksToGo 2 ((Option.some FieldType.int)) := ⟨(tb_of (tb5 165 rfl) rfl), (tb_of (tb5 168 rfl) rfl), (tb_of (tb1 11 rfl) rfl), (tb_of (tb5 166 rfl) rfl), (tb_of (tb5 167 rfl) rfl)⟩
theorem clL_51 : CLv RL 51 yX12_abort cX12_abort 1 ((Option.some FieldType.int)) := ⟨(tb_of (tb5 169 rfl) rfl), (tb_of (tb5 172 rfl) rfl), (tb_of (tb1 11 rfl) rfl), (tb_of (tb5 170 rfl) rfl), (tb_of (tb5 171 rfl) rfl)⟩
theorem clL_55 : CLv RL 55 yX12_node cX12_node 3 ((Option.some FieldType.int)) := ⟨(tb_of (tb5 173 rfl) rfl), (tb_of (tb5 176 rfl) rfl), (tb_of (tb1 11 rfl) rfl), (tb_of (tb5 174 rfl) rfl), (tb_of (tb5 175 rfl) rfl)⟩
theorem clL_59 : CLv RL 59 yX12_child cX12_child 4 ((Option.some FieldType.int)) := ⟨(tb_of (tb5 177 rfl) rfl), (tb_of (tb5 180 rfl) rfl), (tb_of (tb1 11 rfl) rfl), (tb_of (tb5 178 rfl) rfl), (tb_of (tb5 179 rfl) rfl)⟩
theorem clL_63 : CLv RL 63 yX12_underWay cX12_underWay 2 ((Option.some FieldType.int)) := ⟨(tb_of (tb5 181 rfl) rfl), (tb_of (tb5 184 rfl) rfl), (tb_of (tb1 11 rfl) rfl), (tb_of (tb5 182 rfl) rfl), (tb_of (tb5 183 rfl) rfl)⟩
theorem clL_67 : CLv RL 67 yX12_pending cX12_pending 1 ((Option.some FieldType.int)) := ⟨(tb_of (tb5 185 rfl) rfl), (tb_of (tb5 188 rfl) rfl), (tb_of (tb1 11 rfl) rfl), (tb_of (tb5 186 rfl) rfl), (tb_of (tb5 187 rfl) rfl)⟩
theorem clL_71 : CLv RL 71 yX12_trace cX12_trace 3 ((Option.some FieldType.int)) := ⟨(tb_of (tb5 189 rfl) rfl), (tb_of (tb5 192 rfl) rfl), (tb_of (tb1 11 rfl) rfl), (tb_of (tb5 190 rfl) rfl), (tb_of (tb5 191 rfl) rfl)⟩
theorem clL_75 : CLv RL 75 yX12_count cX12_count 4 ((Option.some FieldType.int)) := ⟨(tb_of (tb5 193 rfl) rfl), (tb_of (tb5 196 rfl) rfl), (tb_of (tb1 11 rfl) rfl), (tb_of (tb5 194 rfl) rfl), (tb_of (tb5 195 rfl) rfl)⟩
theorem clL_79 : CLv RL 79 yX12_write cX12_write 3 ((Option.some FieldType.int)) := ⟨(tb_of (tb5 197 rfl) rfl), (tb_of (tb5 200 rfl) rfl), (tb_of (tb1 11 rfl) rfl), (tb_of (tb5 198 rfl) rfl), (tb_of (tb5 199 rfl) rfl)⟩
theorem clX12_250 : CLv RX12 250 yX12_writesNode cX12_writesNode 3 ((Option.none : Option FieldType)) := ⟨(tb_of (tb5 201 rfl) rfl), (tb_of (tb5 204 rfl) rfl), (tb_of (tb1 11 rfl) rfl), (tb_of (tb5 203 rfl) rfl), (tbp (lwp4 7 rfl) rfl)⟩
theorem clX12_244 : CLs RX12 244 yX12_letter cX12_letter 1 ((Option.some FieldType.int)) := ⟨(tb_of (tb5 205 rfl) rfl), (tb_of (tb5 207 rfl) rfl), (tb_of (tb1 11 rfl) rfl), (tb_of (tb5 206 rfl) rfl)⟩
theorem clX12_241 : CLv RX12 241 yX12_writes cX12_writes 2 ((Option.none : Option FieldType)) := ⟨(tb_of (tb5 208 rfl) rfl), (tb_of (tb5 211 rfl) rfl), (tb_of (tb1 11 rfl) rfl), (tb_of (tb5 210 rfl) rfl), (tbp (lwp4 8 rfl) rfl)⟩
theorem clX12_247 : CLv RX12 247 yX12_writesDeed cX12_writesDeed 4 ((Option.none : Option FieldType)) := ⟨(tb_of (tb5 212 rfl) rfl), (tb_of (tb5 215 rfl) rfl), (tb_of (tb1 11 rfl) rfl), (tb_of (tb5 214 rfl) rfl), (tbp (lwp4 9 rfl) rfl)⟩
theorem clL_83 : CLv RL 83 yX12_written cX12_written 2 ((Option.some FieldType.int)) := ⟨(tb_of (tb5 216 rfl) rfl), (tb_of (tb5 219 rfl) rfl), (tb_of (tb1 11 rfl) rfl), (tb_of (tb5 217 rfl) rfl), (tb_of (tb5 218 rfl) rfl)⟩
theorem clL_87 : CLv RL 87 yX12_save cX12_save 1 ((Option.some FieldType.int)) := ⟨(tb_of (tb5 220 rfl) rfl), (tb_of (tb5 223 rfl) rfl), (tb_of (tb1 11 rfl) rfl), (tb_of (tb5 221 rfl) rfl), (tb_of (tb5 222 rfl) rfl)⟩
theorem clL_91 : CLv RL 91 yX12_restore cX12_restore 1 ((Option.some FieldType.int)) := ⟨(tb_of (tb5 224 rfl) rfl), (tb_of (tb5 227 rfl) rfl), (tb_of (tb1 11 rfl) rfl), (tb_of (tb5 225 rfl) rfl), (tb_of (tb5 226 rfl) rfl)⟩
end
section
/-! the abstract heap: fields by number (100 * class + place) and address, int rows and reference rows by address and place -/
abbrev HS : Type := (Nat → Nat → Int32) × (Nat → Nat → Option Nat) × (Nat → Nat → Int32) × (Nat → Nat → Option Nat)
/-- what does not change: the addresses, the kind of each (a class of vwCl, or 13 char, 14 int, 15 Life, 16 Node rows), a row's length -/
abbrev LY : Type := List Nat × (Nat → Nat) × (Nat → Nat)
/-- classes, their slots, the array classes, addresses of the String constants and of their bytes -/
abbrev GG : Type := va_G × (Nat → ClassId) × (Nat → Nat) × (Nat → Nat)
def isR : Nat → Bool := fun f => [0, 104, 200, 209, 210, 302, 401, 402, 403, 408, 409, 410, 411, 412, 413, 500, 501, 600, 601, 602, 700, 800, 900, 901, 1000, 1001, 1100, 1101, 1102, 1103, 1104, 1105, 1106, 1107, 1108, 1200, 1201, 1202, 1204, 1205, 1209, 1210, 1211, 1212, 1213, 1214, 1215, 1216, 1217, 1218, 1219, 1223, 1224, 1225, 1226, 1227, 1228, 1229, 1230, 1231, 1232, 1233, 1234].contains f
def nfl : Nat → Nat := fun c => [1, 5, 11, 10, 14, 3, 3, 2, 2, 2, 2, 10, 39].getD c 0
def vl (S : HS) (f a : Nat) : Value := if isR f = true then va_rf (S.2.1 f a) else .int (S.1 f a)
def fv (S : HS) (c a : Nat) : List Value := (List.range (nfl c)).map fun k => vl S (100 * c + k) a
def ce (G : GG) (Y : LY) (S : HS) : Nat → va_E := fun a =>
  if Y.2.1 a = 13 then .inl (G.2.1 13, Y.2.2 a, .inl (S.2.2.1 a))
  else if Y.2.1 a = 14 then .inl (G.2.1 14, Y.2.2 a, .inl (S.2.2.1 a))
  else if Y.2.1 a = 15 then .inl (G.2.1 15, Y.2.2 a, .inr (.inr (.inr (.inr (S.2.2.2 a)))))
  else if Y.2.1 a = 16 then .inl (G.2.1 16, Y.2.2 a, .inr (.inr (.inr (.inr (S.2.2.2 a)))))
  else .inr (Y.2.1 a, fv S (Y.2.1 a) a)
abbrev tysG (G : GG) : List (ClassId × FieldType) := [(G.2.1 13, .char), (G.2.1 14, .int), (G.2.1 15, .object "BehaviorRunner$Life"), (G.2.1 16, .object "BehaviorRunner$Node")]
abbrev WP (G : GG) (Y : LY) (S : HS) (H : Heap) : Prop := va_P G.1 vwCl (va_pl Y.1 (ce G Y S)) H
abbrev WD (G : GG) (Y : LY) (S : HS) (A : Nat → Prop) : Prop := va_D A (va_pl Y.1 (ce G Y S))
/-- the String constants: their lengths, their bytes -/
def lenJS : List Nat := [15, 3, 3]
def bytJS : List (List Int32) := [[97, 120, 63, 61, 115, 102, 83, 70, 112, 33, 114, 116, 103, 119, 108], [60, 61, 62], [58, 43, 45]]
/-- what stays: the classes, the nest links, the String constants -/
def KK (G : GG) (U : State) : Prop := va_K G.1 vwCl (tysG G) U ∧ ∀ w ∈ tables_1, isNest w = true → va_Nw w U
def STR (G : GG) (A : Nat → Prop) (U : State) (H : Heap) : Prop :=
  vk_S 3 lenJS bytJS G.2.2.1 G.2.2.2 A U H ∧ va_Z "java/lang/String" "COMPACT_STRINGS" "Z" (.int 1) A U H ∧
  vk_R "BehaviorRunner$Parser" 37 "ax?=sfSFp!rtgwl" (G.2.2.1 0) U ∧ vk_R "BehaviorRunner$Parser" 67 "<=>" (G.2.2.1 1) U ∧ vk_R "BehaviorRunner$Parser" 73 ":+-" (G.2.2.1 2) U ∧ vk_R "BehaviorRunner$Writer" 43 "ax?=sfSFp!rtgwl" (G.2.2.1 0) U ∧ va_Zq "jdk/internal/util/Preconditions" "SIOOBE_FORMATTER" "Ljava/util/function/BiFunction;" A U H
theorem nest_warm {w : Cond} {s U : State} (hn : isNest w = true) (hW : s.WarmedH U.vm) (h : va_Nw w s) : va_Nw w U := by
  cases w <;> first | exact va_Nw.warmF hW h | exact va_Nw.warmM hW h | cases hn
theorem nest_same {w : Cond} {s U : State} (hn : isNest w = true) (hW : s.vm = U.vm) (h : va_Nw w s) : va_Nw w U := by
  cases w <;> first | exact va_Nw.same rfl hW h | cases hn
theorem KK.warm {G : GG} {s U : State} (hW : s.WarmedH U.vm) (h : KK G s) : KK G U := ⟨va_K.moved hW.alike h.1, fun w hw hn => nest_warm hn hW (h.2 w hw hn)⟩
theorem KK.same {G : GG} {s U : State} (hW : s.vm = U.vm) (h : KK G s) : KK G U := ⟨va_K.moved (by rw [hW]; exact Vm.Alike.refl _) h.1, fun w hw hn => nest_same hn hW (h.2 w hw hn)⟩
theorem STR.same {G : GG} {A : Nat → Prop} {s U : State} {H : Heap} (hW : U.vm = s.vm) (h : STR G A s H) : STR G A U H :=
  ⟨h.1.moved (by rw [hW]; exact Vm.Alike.refl _), h.2.1.moved (by rw [hW]; exact Vm.Alike.refl _), h.2.2.1.same hW, h.2.2.2.1.same hW, h.2.2.2.2.1.same hW, h.2.2.2.2.2.1.same hW, h.2.2.2.2.2.2.moved (by rw [hW]; exact Vm.Alike.refl _)⟩
theorem STR.warm {G : GG} {A : Nat → Prop} {s U : State} {H : Heap} (hW : s.WarmedH U.vm) (h : STR G A s H) : STR G A U H :=
  ⟨h.1.moved hW.alike, h.2.1.moved hW.alike, h.2.2.1.warm hW, h.2.2.2.1.warm hW, h.2.2.2.2.1.warm hW, h.2.2.2.2.2.1.warm hW, h.2.2.2.2.2.2.moved hW.alike⟩
theorem STR.kept {G : GG} {A : Nat → Prop} {U : State} {H H1 : Heap} (h : STR G A U H) (hq : ∀ a : Nat, a < H.size → ¬ A a → H1[a]? = H[a]?) : STR G A U H1 :=
  ⟨h.1.kept hq, h.2.1.kept hq, h.2.2.1, h.2.2.2.1, h.2.2.2.2.1, h.2.2.2.2.2.1, h.2.2.2.2.2.2.kept hq⟩
theorem STR.narrow {G : GG} {A B : Nat → Prop} {U : State} {H : Heap} (h : STR G A U H) (hAB : ∀ q, B q → A q) : STR G B U H :=
  ⟨h.1.narrow hAB, h.2.1.narrow hAB, h.2.2.1, h.2.2.2.1, h.2.2.2.2.1, h.2.2.2.2.2.1, h.2.2.2.2.2.2.narrow hAB⟩
def chk (Y : LY) (c a : Nat) : Bool := decide (a ∈ Y.1) && (Y.2.1 a == c)
theorem chk_in {Y : LY} {c a : Nat} (h : chk Y c a = true) : a ∈ Y.1 ∧ Y.2.1 a = c := by
  unfold chk at h
  simp only [Bool.and_eq_true, decide_eq_true_eq, beq_iff_eq] at h
  exact h
theorem ce_obj {G : GG} {Y : LY} {S : HS} {c a : Nat} (hc : c < 13) (h : Y.2.1 a = c) : ce G Y S a = .inr (c, fv S c a) := by
  subst h
  unfold ce
  rw [if_neg (by omega), if_neg (by omega), if_neg (by omega), if_neg (by omega)]
theorem ce_13 {G : GG} {Y : LY} {S : HS} {a : Nat} (h : Y.2.1 a = 13) : ce G Y S a = .inl (G.2.1 13, Y.2.2 a, .inl (S.2.2.1 a)) := by
  unfold ce; rw [if_pos h]
theorem ce_14 {G : GG} {Y : LY} {S : HS} {a : Nat} (h : Y.2.1 a = 14) : ce G Y S a = .inl (G.2.1 14, Y.2.2 a, .inl (S.2.2.1 a)) := by
  unfold ce; rw [if_neg (by omega), if_pos h]
theorem ce_15 {G : GG} {Y : LY} {S : HS} {a : Nat} (h : Y.2.1 a = 15) : ce G Y S a = .inl (G.2.1 15, Y.2.2 a, .inr (.inr (.inr (.inr (S.2.2.2 a))))) := by
  unfold ce; rw [if_neg (by omega), if_neg (by omega), if_pos h]
theorem ce_16 {G : GG} {Y : LY} {S : HS} {a : Nat} (h : Y.2.1 a = 16) : ce G Y S a = .inl (G.2.1 16, Y.2.2 a, .inr (.inr (.inr (.inr (S.2.2.2 a))))) := by
  unfold ce; rw [if_neg (by omega), if_neg (by omega), if_neg (by omega), if_pos h]
theorem fv_get {S : HS} {c k a : Nat} (hk : k < nfl c) : (fv S c a)[k]? = some (vl S (100 * c + k) a) := by
  unfold fv
  rw [List.getElem?_map, List.getElem?_range hk]
  rfl
theorem fv_len {S : HS} {c a : Nat} : (fv S c a).length = nfl c := by simp [fv]
/-- two heaps that differ in one field of one object -/
def Diff1 (S S1 : HS) (f a : Nat) : Prop := (∀ g b, (g ≠ f ∨ b ≠ a) → vl S1 g b = vl S g b) ∧ S1.2.2 = S.2.2
theorem fv_set {S S1 : HS} {c k a : Nat} (hk : k < nfl c) (h : Diff1 S S1 (100 * c + k) a) : (fv S c a).set k (vl S1 (100 * c + k) a) = fv S1 c a := by
  apply List.ext_getElem?
  intro j
  by_cases hj : j = k
  · subst hj
    rw [List.getElem?_set_self (by rw [fv_len]; exact hk), fv_get hk]
  · rw [List.getElem?_set_ne (Ne.symm hj)]
    by_cases hl : j < nfl c
    · rw [fv_get hl, fv_get hl, h.1 _ _ (Or.inl (by omega))]
    · rw [List.getElem?_eq_none (by rw [fv_len]; omega), List.getElem?_eq_none (by rw [fv_len]; omega)]
theorem ce_set {G : GG} {Y : LY} {S S1 : HS} {c k a : Nat} (hc : c < 13) (hK : Y.2.1 a = c) (hk : k < nfl c) (h : Diff1 S S1 (100 * c + k) a) (b : Nat) : va_up (ce G Y S) a (.inr (c, (fv S c a).set k (vl S1 (100 * c + k) a))) b = ce G Y S1 b := by
  by_cases hb : b = a
  · subst hb
    rw [va_up_self, fv_set hk h, ce_obj hc hK]
  · rw [va_up_ne _ _ hb]
    unfold ce
    rw [h.2]
    have e : fv S (Y.2.1 b) b = fv S1 (Y.2.1 b) b := by
      unfold fv
      apply List.map_congr_left
      intro j _
      rw [h.1 _ _ (Or.inr hb)]
    rw [e]
theorem WD_eq {G : GG} {Y : LY} {S S1 : HS} {A : Nat → Prop} (h : WD G Y S A) : WD G Y S1 A := by
  have key : ∀ (k : Nat) (q : Nat × va_E), (va_pl Y.1 (ce G Y S1))[k]? = some q → (va_pl Y.1 (ce G Y S))[k]? = some (q.1, ce G Y S q.1) := by
    intro k q hk
    simp only [va_pl, List.getElem?_map] at hk ⊢
    cases hb : Y.1[k]? with
    | none => rw [hb] at hk; cases hk
    | some b => rw [hb] at hk; cases hk; rfl
  exact ⟨fun i j p q hi hj e => h.1 i j _ _ (key i p hi) (key j q hj) e, fun k q hk => h.2 k (q.1, ce G Y S q.1) (key k q hk)⟩
theorem WD_in {G : GG} {Y : LY} {S : HS} {A : Nat → Prop} (h : WD G Y S A) {a : Nat} (ha : a ∈ Y.1) : A a := by
  obtain ⟨k, hk⟩ := va_pl_get (X := []) (f := ce G Y S) ha
  exact h.2 k _ hk
/-- what a walk holds at each step -/
def HP (A : Nat → Prop) (G : GG) (Y : LY) (s : State) (S : HS) (H : Heap) (locs : List Loc) : Prop := WP G Y S H ∧ WD G Y S A ∧ va_S A s.heap H locs
/-- what a method's frame knows for good -/
def Cx (p : Program) (R : Room) (s : State) (m : MethodId) (args : Array Value) (meth : Method) (c : Code) (own : String) (cc : ByteArray) (nL : Nat) (nf nl : Nat) (A : Nat → Prop) (G : GG) (rt : Option FieldType) : Prop :=
  (p.tables.exec = Jvm.exec ∧ c.code = cc ∧ c.maxLocals = nL ∧ s.vm.findClass own = some m.cls ∧ ∀ w ∈ TBL, w.before args s = true) ∧ KK G s ∧ STR G A s s.heap ∧ meth.locks = false ∧ meth.sig.returnType = rt ∧ nf ≤ R.frames ∧ nl ≤ R.locals ∧ (0 ≤ R.cells ∧ 0 ≤ R.slots)
theorem ob {α β : Type} {x : Option α} {f : α → Option β} {r : β} (h : x.bind f = some r) : ∃ v, x = some v ∧ f v = some r := by
  cases x with
  | none => cases h
  | some v => exact ⟨v, rfl, h⟩
theorem ifp {α : Type} {c : Prop} [Decidable c] {a b r : α} (h : (if c then a else b) = r) (hc : c) : a = r := by rw [if_pos hc] at h; exact h
theorem ifn {α : Type} {c : Prop} [Decidable c] {a b r : α} (h : (if c then a else b) = r) (hc : ¬ c) : b = r := by rw [if_neg hc] at h; exact h
/-! reads and writes -/
def upN {α : Type} (F : Nat → Nat → α) (f a : Nat) (v : α) : Nat → Nat → α := fun g b => if g = f ∧ b = a then v else F g b
def gI (Y : LY) (c f : Nat) (r : Option Nat) (S : HS) : Option Int32 := r.bind fun a => if chk Y c a = true then some (S.1 f a) else none
def gR (Y : LY) (c f : Nat) (r : Option Nat) (S : HS) : Option (Option Nat) := r.bind fun a => if chk Y c a = true then some (S.2.1 f a) else none
def pI (Y : LY) (c f : Nat) (r : Option Nat) (v : Int32) (S : HS) : Option HS := r.bind fun a => if chk Y c a = true then some (upN S.1 f a v, S.2) else none
def pZ (Y : LY) (c f : Nat) (r : Option Nat) (v : Int32) (S : HS) : Option HS := if v = 0 ∨ v = 1 then pI Y c f r v S else none
def pC (Y : LY) (c f : Nat) (r : Option Nat) (v : Int32) (S : HS) : Option HS := if vp_nar .char v = v then pI Y c f r v S else none
def pR (Y : LY) (c f : Nat) (r : Option Nat) (v : Option Nat) (S : HS) : Option HS := r.bind fun a => if chk Y c a = true then some (S.1, upN S.2.1 f a v, S.2.2) else none
def inr (i : Int32) (n : Nat) : Bool := !(decide (i < 0)) && decide (i.toNatClampNeg < n)
theorem inr_in {i : Int32} {n : Nat} (h : inr i n = true) : vp_in i n := by
  unfold inr at h
  simp only [Bool.and_eq_true, Bool.not_eq_true', decide_eq_false_iff_not, decide_eq_true_eq] at h
  intro q
  rcases q with q | q
  · exact h.1 q
  · omega
def gA (Y : LY) (k : Nat) (r : Option Nat) (i : Int32) (S : HS) : Option Int32 := r.bind fun a => if (chk Y k a && inr i (Y.2.2 a)) = true then some (S.2.2.1 a i.toNatClampNeg) else none
def gQ (Y : LY) (k : Nat) (r : Option Nat) (i : Int32) (S : HS) : Option (Option Nat) := r.bind fun a => if (chk Y k a && inr i (Y.2.2 a)) = true then some (S.2.2.2 a i.toNatClampNeg) else none
def pA (Y : LY) (k : Nat) (r : Option Nat) (i v : Int32) (S : HS) : Option HS := r.bind fun a => if (chk Y k a && inr i (Y.2.2 a)) = true then some (S.1, S.2.1, upN S.2.2.1 a i.toNatClampNeg v, S.2.2.2) else none
def aL (Y : LY) (k : Nat) (r : Option Nat) : Option Int32 := r.bind fun a => if chk Y k a = true then some (Int32.ofNat (Y.2.2 a)) else none
def cpA (Y : LY) (r : Option Nat) (sp : Int32) (r2 : Option Nat) (dp n : Int32) (S : HS) : Option HS := r.bind fun a => r2.bind fun b => if (chk Y 14 a && chk Y 14 b) = true ∧ ¬ sp < 0 ∧ ¬ dp < 0 ∧ ¬ n < 0 ∧ sp.toNatClampNeg + n.toNatClampNeg ≤ Y.2.2 a ∧ dp.toNatClampNeg + n.toNatClampNeg ≤ Y.2.2 b then some (S.1, S.2.1, va_up S.2.2.1 b (va_cpy (S.2.2.1 a) (S.2.2.1 b) sp.toNatClampNeg dp.toNatClampNeg n.toNatClampNeg), S.2.2.2) else none
def rcv (Y : LY) (c : Nat) (r : Option Nat) : Option Unit := r.bind fun a => if chk Y c a = true then some () else none
def zr (v : Int32) : Option Int32 := if v = 0 ∨ v = 1 then some v else none
theorem rc_some {Y : LY} {c : Nat} {r : Option Nat} {α : Type} {g : Nat → α} {x : α} (h : (r.bind fun a => if chk Y c a = true then some (g a) else none) = some x) : ∃ a, r = some a ∧ chk Y c a = true ∧ g a = x := by
  cases r with
  | none => cases h
  | some a =>
    by_cases hc : chk Y c a = true
    · have h' : (if chk Y c a = true then some (g a) else none) = some x := h
      rw [if_pos hc] at h'
      exact ⟨a, rfl, hc, Option.some.inj h'⟩
    · have h' : (if chk Y c a = true then some (g a) else none) = some x := h
      rw [if_neg hc] at h'
      cases h'
theorem rc_some2 {Y : LY} {c : Nat} {i : Int32} {r : Option Nat} {α : Type} {g : Nat → α} {x : α} (h : (r.bind fun a => if (chk Y c a && inr i (Y.2.2 a)) = true then some (g a) else none) = some x) : ∃ a, r = some a ∧ chk Y c a = true ∧ vp_in i (Y.2.2 a) ∧ g a = x := by
  cases r with
  | none => cases h
  | some a =>
    by_cases hc : (chk Y c a && inr i (Y.2.2 a)) = true
    · have h' : (if (chk Y c a && inr i (Y.2.2 a)) = true then some (g a) else none) = some x := h
      rw [if_pos hc] at h'
      rw [Bool.and_eq_true] at hc
      exact ⟨a, rfl, hc.1, inr_in hc.2, Option.some.inj h'⟩
    · have h' : (if (chk Y c a && inr i (Y.2.2 a)) = true then some (g a) else none) = some x := h
      rw [if_neg hc] at h'
      cases h'
end
section
/-! rows of the walks: an instruction, a row; reads and writes by the abstract heap's functions -/
theorem vw_nfl {c : Nat} {r : vw_C} (h : vwCl[c]? = some r) : c < 13 ∧ r.2.2 = nfl c := by
  match c, h with
  | 0, h => cases h; exact ⟨by decide, rfl⟩
  | 1, h => cases h; exact ⟨by decide, rfl⟩
  | 2, h => cases h; exact ⟨by decide, rfl⟩
  | 3, h => cases h; exact ⟨by decide, rfl⟩
  | 4, h => cases h; exact ⟨by decide, rfl⟩
  | 5, h => cases h; exact ⟨by decide, rfl⟩
  | 6, h => cases h; exact ⟨by decide, rfl⟩
  | 7, h => cases h; exact ⟨by decide, rfl⟩
  | 8, h => cases h; exact ⟨by decide, rfl⟩
  | 9, h => cases h; exact ⟨by decide, rfl⟩
  | 10, h => cases h; exact ⟨by decide, rfl⟩
  | 11, h => cases h; exact ⟨by decide, rfl⟩
  | 12, h => cases h; exact ⟨by decide, rfl⟩
  | n + 13, h => simp [vwCl] at h
abbrev RM (f lo : Nat) : Room := { frames := f, cells := 0, slots := 0, locals := lo }
def PY (y : MethodName) (k : Nat) : Prop := y.cls ≠ "java/lang/invoke/MethodHandle" ∧ y.cls ≠ "java/lang/invoke/VarHandle" ∧ (parseMethodDescriptor y.desc).map (fun d => d.parameters.length) = some k
def PreW (G : GG) (Y : LY) (S : HS) (av : List Value) : Array Value → State → Prop := va_Pc av (fun U => WP G Y S U.heap ∧ WD G Y S (fun q => q ∈ Y.1) ∧ KK G U ∧ STR G (fun q => q ∈ Y.1) U U.heap)
def QI (G : GG) (Y : LY) (S : HS) (r : Option Value) : Array Value → State → Outcome → State → Prop := fun _ st o t => o = .returned r ∧ WP G Y S t.heap ∧ va_F (fun q => q ∈ Y.1) st t
/-- a method's contract: from the heap S with these arguments it ends with S1 and the answer r; nothing new, nothing outside changed -/
def MM (l : Launch) (y : MethodName) (b : ByteArray) (n : Nat) (ret : Option FieldType) (f lo : Nat) (G : GG) (Y : LY) (S : HS) (av : List Value) (S1 : HS) (r : Option Value) : Prop :=
  Met l y (.code y b n ret :: TBL) (RM f lo) (PreW G Y S av) (QI G Y S1 r) 0 0 (fun q => q ∈ Y.1)
section RW
variable {p : Program} {l : Launch} {e : Env} {R : Room} {s : State} {m : MethodId} {args : Array Value} {below : List Frame} {meth : Method} {c : Code} {H : Heap} {locs : List Loc} {cells slots : Nat} {Q : State → Prop}
variable {own : String} {cc : ByteArray} {nL nf nl : Nat} {A : Nat → Prop} {G : GG} {rt : Option FieldType} {Y : LY} {S S1 : HS} {pc : Nat} {ls : Array Slot} {rest : List Value}
theorem rw_get (X : Cx p R s m args meth c own cc nL nf nl A G rt) {index cN k a : Nat} (hdg : decode cc pc = .ok (.getfield index, 3)) (hF : FLk own index cN k) (hc : chk Y cN a = true) (hP : HP A G Y s S H locs)
    (kk : W p l e R s m args below meth c H locs cells slots Q (F0 m (pc + 3) ls (vl S (100 * cN + k) a :: rest))) : W p l e R s m args below meth c H locs cells slots Q (F0 m pc ls (.ref a :: rest)) := by
  obtain ⟨⟨hx, hb, hml, hown, hts⟩, hKK, -⟩ := X
  obtain ⟨C, T, N, h1, h2, h3, h4, h5⟩ := hF
  obtain ⟨h6, h7⟩ := vw_nfl h1
  have hk : k < nfl cN := by rw [← h7]; exact h2
  obtain ⟨ha, hk2⟩ := chk_in hc
  obtain ⟨i, hi⟩ := va_pl_get (X := []) (f := ce G Y S) ha
  rw [ce_obj h6 hk2] at hi
  have hsame : ∀ x, s.fieldFound? (T k).1 (T k).2.1 (T k).2.2.1 = some x → s.fieldFound? C (T k).2.1 (T k).2.2.1 = some x := by rw [h4]; exact fun x h => h
  rcases h5 with h5 | ⟨host, h5⟩
  · exact va_get hx hb hts h3 hown hKK.1 hP.1 i hi h1 k h2 (hts _ h5) hsame (fv_get hk) hdg kk
  · exact va_getN hx hb hts h3 hown hKK.1 hP.1 i hi h1 k h2 (va_Nw.use rfl (hKK.2 _ h5 rfl)) hsame (fv_get hk) hdg kk
theorem rw_getI (X : Cx p R s m args meth c own cc nL nf nl A G rt) {index cN k f : Nat} {r : Option Nat} {v : Int32} (hdg : decode cc pc = .ok (.getfield index, 3)) (hF : FLk own index cN k) (h : gI Y cN f r S = some v) (hf : (f == 100 * cN + k && !isR f) = true) (hP : HP A G Y s S H locs)
    (kk : W p l e R s m args below meth c H locs cells slots Q (F0 m (pc + 3) ls (.int v :: rest))) : W p l e R s m args below meth c H locs cells slots Q (F0 m pc ls (va_rf r :: rest)) := by
  obtain ⟨a, rfl, hc, rfl⟩ := rc_some h
  simp only [Bool.and_eq_true, beq_iff_eq, Bool.not_eq_true'] at hf
  refine rw_get X hdg hF hc hP ?_
  rw [← hf.1]
  unfold vl
  rw [hf.2]
  exact kk
theorem rw_getR (X : Cx p R s m args meth c own cc nL nf nl A G rt) {index cN k f : Nat} {r v : Option Nat} (hdg : decode cc pc = .ok (.getfield index, 3)) (hF : FLk own index cN k) (h : gR Y cN f r S = some v) (hf : (f == 100 * cN + k && isR f) = true) (hP : HP A G Y s S H locs)
    (kk : W p l e R s m args below meth c H locs cells slots Q (F0 m (pc + 3) ls (va_rf v :: rest))) : W p l e R s m args below meth c H locs cells slots Q (F0 m pc ls (va_rf r :: rest)) := by
  obtain ⟨a, rfl, hc, rfl⟩ := rc_some h
  simp only [Bool.and_eq_true, beq_iff_eq] at hf
  refine rw_get X hdg hF hc hP ?_
  rw [← hf.1]
  unfold vl
  rw [hf.2]
  exact kk
theorem rw_put (X : Cx p R s m args meth c own cc nL nf nl A G rt) {index cN k a : Nat} {ty : FieldType} (hdg : decode cc pc = .ok (.putfield index, 3)) (hF : FLk own index cN k) (hW : FLw cN k ty) (hc : chk Y cN a = true) (hP : HP A G Y s S H locs)
    (hd : Diff1 S S1 (100 * cN + k) a) (hn : narrow ty (vl S1 (100 * cN + k) a) = vl S1 (100 * cN + k) a) (hfit : fits ty (vl S1 (100 * cN + k) a) = true)
    (kk : ∀ (H : Heap) (locs : List Loc), HP A G Y s S1 H locs → W p l e R s m args below meth c H locs cells slots Q (F0 m (pc + 3) ls rest)) : W p l e R s m args below meth c H locs cells slots Q (F0 m pc ls (vl S1 (100 * cN + k) a :: .ref a :: rest)) := by
  obtain ⟨⟨hx, hb, hml, hown, hts⟩, hKK, -⟩ := X
  obtain ⟨C, T, N, h1, h2, h3, h4, h5⟩ := hF
  obtain ⟨C', T', N', ty0, g1, g2, g3, g4, g5⟩ := hW
  rw [h1] at g1
  cases g1
  obtain ⟨h6, h7⟩ := vw_nfl h1
  have hk : k < nfl cN := by rw [← h7]; exact h2
  obtain ⟨ha, hk2⟩ := chk_in hc
  obtain ⟨i, hi⟩ := va_pl_get (X := []) (f := ce G Y S) ha
  have hi0 := hi
  rw [ce_obj h6 hk2] at hi
  have hsame : ∀ x, s.fieldFound? (T k).1 (T k).2.1 (T k).2.2.1 = some x → s.fieldFound? C (T k).2.1 (T k).2.2.1 = some x := by rw [h4]; exact fun x h => h
  obtain ⟨hP1, hP2, hP3⟩ := hP
  have hset : (va_pl Y.1 (ce G Y S)).set i (a, .inr (cN, (fv S cN a).set k (vl S1 (100 * cN + k) a))) = va_pl Y.1 (ce G Y S1) := by
    have e := va_pl_set (X := []) hP2 ha hi0 (e := .inr (cN, (fv S cN a).set k (vl S1 (100 * cN + k) a)))
    exact e.trans (va_pl_congr (ce_set h6 hk2 hk hd))
  have kk' : ∀ (H1 : Heap) (locs1 : List Loc), va_P G.1 vwCl ((va_pl Y.1 (ce G Y S)).set i (a, .inr (cN, (fv S cN a).set k (vl S1 (100 * cN + k) a)))) H1 → va_D A ((va_pl Y.1 (ce G Y S)).set i (a, .inr (cN, (fv S cN a).set k (vl S1 (100 * cN + k) a)))) → va_S A s.heap H1 locs1 → W p l e R s m args below meth c H1 locs1 cells slots Q (F0 m (pc + 3) ls rest) := by
    intro H1 locs1 q1 q2 q3
    rw [hset] at q1 q2
    exact kk H1 locs1 ⟨q1, q2, q3⟩
  rcases h5 with h5 | ⟨host, h5⟩
  · exact va_put hx hb hts h3 ty0 g2 g3 hown hKK.1 hP1 hP2 hP3 i hi h1 k h2 (hts _ h5) hsame g4 g5 hn hfit (by rw [fv_len]; exact hk) hdg kk'
  · exact va_putN hx hb hts h3 ty0 g2 g3 hown hKK.1 hP1 hP2 hP3 i hi h1 k h2 (va_Nw.use rfl (hKK.2 _ h5 rfl)) hsame g4 g5 hn hfit (by rw [fv_len]; exact hk) hdg kk'
theorem diff_I {f a : Nat} {v : Int32} (hR : isR f = false) : Diff1 S (upN S.1 f a v, S.2) f a ∧ vl (upN S.1 f a v, S.2) f a = .int v := by
  refine ⟨⟨fun g b h => ?_, rfl⟩, ?_⟩
  · unfold vl
    have e : upN S.1 f a v g b = S.1 g b := by
      unfold upN
      rw [if_neg]
      intro q
      rcases h with h | h
      · exact h q.1
      · exact h q.2
    show (if isR g = true then va_rf (S.2.1 g b) else .int (upN S.1 f a v g b)) = _
    rw [e]
  · unfold vl
    rw [hR]
    show Value.int (upN S.1 f a v f a) = _
    simp [upN]
theorem diff_R {f a : Nat} {v : Option Nat} (hR : isR f = true) : Diff1 S (S.1, upN S.2.1 f a v, S.2.2) f a ∧ vl (S.1, upN S.2.1 f a v, S.2.2) f a = va_rf v := by
  refine ⟨⟨fun g b h => ?_, rfl⟩, ?_⟩
  · unfold vl
    have e : upN S.2.1 f a v g b = S.2.1 g b := by
      unfold upN
      rw [if_neg]
      intro q
      rcases h with h | h
      · exact h q.1
      · exact h q.2
    show (if isR g = true then va_rf (upN S.2.1 f a v g b) else .int (S.1 g b)) = _
    rw [e]
  · unfold vl
    rw [hR]
    show va_rf (upN S.2.1 f a v f a) = _
    simp [upN]
theorem rw_putI (X : Cx p R s m args meth c own cc nL nf nl A G rt) {index cN k f : Nat} {r : Option Nat} {v : Int32} (hdg : decode cc pc = .ok (.putfield index, 3)) (hF : FLk own index cN k) (hW : FLw cN k .int) (h : pI Y cN f r v S = some S1) (hf : (f == 100 * cN + k && !isR f) = true) (hP : HP A G Y s S H locs)
    (kk : ∀ (H : Heap) (locs : List Loc), HP A G Y s S1 H locs → W p l e R s m args below meth c H locs cells slots Q (F0 m (pc + 3) ls rest)) : W p l e R s m args below meth c H locs cells slots Q (F0 m pc ls (.int v :: va_rf r :: rest)) := by
  obtain ⟨a, rfl, hc, rfl⟩ := rc_some h
  simp only [Bool.and_eq_true, beq_iff_eq, Bool.not_eq_true'] at hf
  obtain ⟨hf1, hf2⟩ := hf
  obtain ⟨d1, d2⟩ := diff_I (S := S) (a := a) (v := v) hf2
  rw [hf1] at d1 d2 kk
  have := rw_put X hdg hF hW hc hP d1 (by rw [d2]; rfl) (by rw [d2]; rfl) kk
  rw [d2] at this
  exact this
theorem rw_putZ (X : Cx p R s m args meth c own cc nL nf nl A G rt) {index cN k f : Nat} {r : Option Nat} {v : Int32} (hdg : decode cc pc = .ok (.putfield index, 3)) (hF : FLk own index cN k) (hW : FLw cN k .boolean) (h : pZ Y cN f r v S = some S1) (hf : (f == 100 * cN + k && !isR f) = true) (hP : HP A G Y s S H locs)
    (kk : ∀ (H : Heap) (locs : List Loc), HP A G Y s S1 H locs → W p l e R s m args below meth c H locs cells slots Q (F0 m (pc + 3) ls rest)) : W p l e R s m args below meth c H locs cells slots Q (F0 m pc ls (.int v :: va_rf r :: rest)) := by
  unfold pZ at h
  by_cases hv : v = 0 ∨ v = 1
  · rw [if_pos hv] at h
    obtain ⟨a, rfl, hc, rfl⟩ := rc_some h
    simp only [Bool.and_eq_true, beq_iff_eq, Bool.not_eq_true'] at hf
    obtain ⟨hf1, hf2⟩ := hf
    obtain ⟨d1, d2⟩ := diff_I (S := S) (a := a) (v := v) hf2
    rw [hf1] at d1 d2 kk
    have := rw_put X hdg hF hW hc hP d1 (by rw [d2]; rcases hv with rfl | rfl <;> decide +kernel) (by rw [d2]; rcases hv with rfl | rfl <;> decide +kernel) kk
    rw [d2] at this
    exact this
  · rw [if_neg hv] at h
    cases h
theorem rw_putC (X : Cx p R s m args meth c own cc nL nf nl A G rt) {index cN k f : Nat} {r : Option Nat} {v : Int32} (hdg : decode cc pc = .ok (.putfield index, 3)) (hF : FLk own index cN k) (hW : FLw cN k .char) (h : pC Y cN f r v S = some S1) (hf : (f == 100 * cN + k && !isR f) = true) (hP : HP A G Y s S H locs)
    (kk : ∀ (H : Heap) (locs : List Loc), HP A G Y s S1 H locs → W p l e R s m args below meth c H locs cells slots Q (F0 m (pc + 3) ls rest)) : W p l e R s m args below meth c H locs cells slots Q (F0 m pc ls (.int v :: va_rf r :: rest)) := by
  unfold pC at h
  by_cases hv : vp_nar .char v = v
  · rw [if_pos hv] at h
    obtain ⟨a, rfl, hc, rfl⟩ := rc_some h
    simp only [Bool.and_eq_true, beq_iff_eq, Bool.not_eq_true'] at hf
    obtain ⟨hf1, hf2⟩ := hf
    obtain ⟨d1, d2⟩ := diff_I (S := S) (a := a) (v := v) hf2
    rw [hf1] at d1 d2 kk
    rw [vp_nar_char] at hv
    have h2 : (v.toUInt32 % 65536).toInt32 = v.toUInt32.toUInt16.toUInt32.toInt32 := by
      congr 1
    have hv2 : (v.toUInt32 % 65536).toInt32 = v := h2.trans hv
    have := rw_put X hdg hF hW hc hP d1 (by rw [d2, ← hv2]; exact pk_nc v) (by rw [d2, ← hv2]; exact pk_fc v) kk
    rw [d2] at this
    exact this
  · rw [if_neg hv] at h
    cases h
theorem rw_putR (X : Cx p R s m args meth c own cc nL nf nl A G rt) {index cN k f : Nat} {r v : Option Nat} {C : String} (hdg : decode cc pc = .ok (.putfield index, 3)) (hF : FLk own index cN k) (hW : FLw cN k (.object C)) (h : pR Y cN f r v S = some S1) (hf : (f == 100 * cN + k && isR f) = true) (hP : HP A G Y s S H locs)
    (kk : ∀ (H : Heap) (locs : List Loc), HP A G Y s S1 H locs → W p l e R s m args below meth c H locs cells slots Q (F0 m (pc + 3) ls rest)) : W p l e R s m args below meth c H locs cells slots Q (F0 m pc ls (va_rf v :: va_rf r :: rest)) := by
  obtain ⟨a, rfl, hc, rfl⟩ := rc_some h
  simp only [Bool.and_eq_true, beq_iff_eq] at hf
  obtain ⟨hf1, hf2⟩ := hf
  obtain ⟨d1, d2⟩ := diff_R (S := S) (a := a) (v := v) hf2
  rw [hf1] at d1 d2 kk
  have := rw_put X hdg hF hW hc hP d1 (by rw [d2]; cases v <;> rfl) (by rw [d2]; cases v <;> rfl) kk
  rw [d2] at this
  exact this
theorem rw_iald (X : Cx p R s m args meth c own cc nL nf nl A G rt) {r : Option Nat} {i v : Int32} (hdg : decode cc pc = .ok (.iaload, 1)) (h : gA Y 14 r i S = some v) (hP : HP A G Y s S H locs)
    (kk : W p l e R s m args below meth c H locs cells slots Q (F0 m (pc + 1) ls (.int v :: rest))) : W p l e R s m args below meth c H locs cells slots Q (F0 m pc ls (.int i :: va_rf r :: rest)) := by
  obtain ⟨a, rfl, hc, hin, rfl⟩ := rc_some2 h
  obtain ⟨⟨hx, hb, hml, hown, hts⟩, hKK, -⟩ := X
  obtain ⟨ha, hk2⟩ := chk_in hc
  obtain ⟨j, hj⟩ := va_pl_get (X := []) (f := ce G Y S) ha
  rw [ce_14 hk2] at hj
  exact va_iald hx hb hKK.1 hP.1 j 1 hj rfl hin hdg kk
theorem rw_cald (X : Cx p R s m args meth c own cc nL nf nl A G rt) {r : Option Nat} {i v : Int32} (hdg : decode cc pc = .ok (.caload, 1)) (h : gA Y 13 r i S = some v) (hP : HP A G Y s S H locs)
    (kk : W p l e R s m args below meth c H locs cells slots Q (F0 m (pc + 1) ls (.int v :: rest))) : W p l e R s m args below meth c H locs cells slots Q (F0 m pc ls (.int i :: va_rf r :: rest)) := by
  obtain ⟨a, rfl, hc, hin, rfl⟩ := rc_some2 h
  obtain ⟨⟨hx, hb, hml, hown, hts⟩, hKK, -⟩ := X
  obtain ⟨ha, hk2⟩ := chk_in hc
  obtain ⟨j, hj⟩ := va_pl_get (X := []) (f := ce G Y S) ha
  rw [ce_13 hk2] at hj
  exact va_cald hx hb hKK.1 hP.1 j 0 hj rfl hin hdg kk
theorem rw_aald15 (X : Cx p R s m args meth c own cc nL nf nl A G rt) {r v : Option Nat} {i : Int32} (hdg : decode cc pc = .ok (.aaload, 1)) (h : gQ Y 15 r i S = some v) (hP : HP A G Y s S H locs)
    (kk : W p l e R s m args below meth c H locs cells slots Q (F0 m (pc + 1) ls (va_rf v :: rest))) : W p l e R s m args below meth c H locs cells slots Q (F0 m pc ls (.int i :: va_rf r :: rest)) := by
  obtain ⟨a, rfl, hc, hin, rfl⟩ := rc_some2 h
  obtain ⟨⟨hx, hb, hml, hown, hts⟩, hKK, -⟩ := X
  obtain ⟨ha, hk2⟩ := chk_in hc
  obtain ⟨j, hj⟩ := va_pl_get (X := []) (f := ce G Y S) ha
  rw [ce_15 hk2] at hj
  exact va_aldq hx hb hKK.1 hP.1 j 2 hj rfl hin hdg kk
theorem rw_aald16 (X : Cx p R s m args meth c own cc nL nf nl A G rt) {r v : Option Nat} {i : Int32} (hdg : decode cc pc = .ok (.aaload, 1)) (h : gQ Y 16 r i S = some v) (hP : HP A G Y s S H locs)
    (kk : W p l e R s m args below meth c H locs cells slots Q (F0 m (pc + 1) ls (va_rf v :: rest))) : W p l e R s m args below meth c H locs cells slots Q (F0 m pc ls (.int i :: va_rf r :: rest)) := by
  obtain ⟨a, rfl, hc, hin, rfl⟩ := rc_some2 h
  obtain ⟨⟨hx, hb, hml, hown, hts⟩, hKK, -⟩ := X
  obtain ⟨ha, hk2⟩ := chk_in hc
  obtain ⟨j, hj⟩ := va_pl_get (X := []) (f := ce G Y S) ha
  rw [ce_16 hk2] at hj
  exact va_aldq hx hb hKK.1 hP.1 j 3 hj rfl hin hdg kk
theorem rw_alen (X : Cx p R s m args meth c own cc nL nf nl A G rt) {k : Nat} {r : Option Nat} {v : Int32} (hk : k = 13 ∨ k = 14 ∨ k = 15 ∨ k = 16) (hdg : decode cc pc = .ok (.arraylength, 1)) (h : aL Y k r = some v) (hP : HP A G Y s S H locs)
    (kk : W p l e R s m args below meth c H locs cells slots Q (F0 m (pc + 1) ls (.int v :: rest))) : W p l e R s m args below meth c H locs cells slots Q (F0 m pc ls (va_rf r :: rest)) := by
  obtain ⟨a, rfl, hc, rfl⟩ := rc_some h
  obtain ⟨⟨hx, hb, hml, hown, hts⟩, hKK, -⟩ := X
  obtain ⟨ha, hk2⟩ := chk_in hc
  obtain ⟨j, hj⟩ := va_pl_get (X := []) (f := ce G Y S) ha
  rcases hk with rfl | rfl | rfl | rfl
  · rw [ce_13 hk2] at hj
    exact va_alen hx hb hKK.1 hP.1 j 0 hj rfl rfl hdg kk
  · rw [ce_14 hk2] at hj
    exact va_alen hx hb hKK.1 hP.1 j 1 hj rfl rfl hdg kk
  · rw [ce_15 hk2] at hj
    exact va_alen hx hb hKK.1 hP.1 j 2 hj rfl rfl hdg kk
  · rw [ce_16 hk2] at hj
    exact va_alen hx hb hKK.1 hP.1 j 3 hj rfl rfl hdg kk
theorem ce_row {a : Nat} (g : Nat → Int32) (hk : Y.2.1 a = 13 ∨ Y.2.1 a = 14) (b : Nat) : va_up (ce G Y S) a (.inl (G.2.1 (Y.2.1 a), Y.2.2 a, .inl g)) b = ce G Y (S.1, S.2.1, va_up S.2.2.1 a g, S.2.2.2) b := by
  by_cases hb : b = a
  · subst hb
    rw [va_up_self]
    rcases hk with hk | hk
    · rw [ce_13 hk, hk]
      show _ = (Sum.inl (_, _, Sum.inl (va_up S.2.2.1 b g b)) : va_E)
      rw [va_up_self]
    · rw [ce_14 hk, hk]
      show _ = (Sum.inl (_, _, Sum.inl (va_up S.2.2.1 b g b)) : va_E)
      rw [va_up_self]
  · rw [va_up_ne _ _ hb]
    have e : va_up S.2.2.1 a g b = S.2.2.1 b := va_up_ne _ _ hb
    unfold ce
    simp only [e]
    rfl
theorem rows_up {a j : Nat} {x : Int32} : upN S.2.2.1 a j x = va_up S.2.2.1 a (upd (S.2.2.1 a) j x) := by
  funext b i
  unfold upN va_up upd
  by_cases hb : b = a
  · subst hb
    by_cases hi : i = j
    · simp [hi]
    · simp [hi]
  · simp [hb]
theorem rw_iast (X : Cx p R s m args meth c own cc nL nf nl A G rt) {r : Option Nat} {i v : Int32} (hdg : decode cc pc = .ok (.iastore, 1)) (h : pA Y 14 r i v S = some S1) (hP : HP A G Y s S H locs)
    (kk : ∀ (H : Heap) (locs : List Loc), HP A G Y s S1 H locs → W p l e R s m args below meth c H locs cells slots Q (F0 m (pc + 1) ls rest)) : W p l e R s m args below meth c H locs cells slots Q (F0 m pc ls (.int v :: .int i :: va_rf r :: rest)) := by
  obtain ⟨a, rfl, hc, hin, rfl⟩ := rc_some2 h
  obtain ⟨⟨hx, hb, hml, hown, hts⟩, hKK, -⟩ := X
  obtain ⟨ha, hk2⟩ := chk_in hc
  obtain ⟨j, hj⟩ := va_pl_get (X := []) (f := ce G Y S) ha
  have hj0 := hj
  rw [ce_14 hk2] at hj
  obtain ⟨hP1, hP2, hP3⟩ := hP
  have hset : (va_pl Y.1 (ce G Y S)).set j (a, .inl (G.2.1 14, Y.2.2 a, .inl (upd (S.2.2.1 a) i.toNatClampNeg v))) = va_pl Y.1 (ce G Y (S.1, S.2.1, upN S.2.2.1 a i.toNatClampNeg v, S.2.2.2)) := by
    rw [rows_up]
    have e := va_pl_set (X := []) hP2 ha hj0 (e := .inl (G.2.1 14, Y.2.2 a, .inl (upd (S.2.2.1 a) i.toNatClampNeg v)))
    exact e.trans (va_pl_congr (fun b => by have := ce_row (G := G) (S := S) (upd (S.2.2.1 a) i.toNatClampNeg v) (Or.inr hk2) b; rw [hk2] at this; exact this))
  refine va_iast hx hb hKK.1 hP1 hP2 hP3 j 1 hj rfl hin hdg (fun H1 locs1 q1 q2 q3 => ?_)
  rw [hset] at q1 q2
  exact kk H1 locs1 ⟨q1, q2, q3⟩
theorem rw_cast (X : Cx p R s m args meth c own cc nL nf nl A G rt) {r : Option Nat} {i v : Int32} (hdg : decode cc pc = .ok (.castore, 1)) (h : pA Y 13 r i (vp_nar .char v) S = some S1) (hP : HP A G Y s S H locs)
    (kk : ∀ (H : Heap) (locs : List Loc), HP A G Y s S1 H locs → W p l e R s m args below meth c H locs cells slots Q (F0 m (pc + 1) ls rest)) : W p l e R s m args below meth c H locs cells slots Q (F0 m pc ls (.int v :: .int i :: va_rf r :: rest)) := by
  obtain ⟨a, rfl, hc, hin, rfl⟩ := rc_some2 h
  obtain ⟨⟨hx, hb, hml, hown, hts⟩, hKK, -⟩ := X
  obtain ⟨ha, hk2⟩ := chk_in hc
  obtain ⟨j, hj⟩ := va_pl_get (X := []) (f := ce G Y S) ha
  have hj0 := hj
  rw [ce_13 hk2] at hj
  obtain ⟨hP1, hP2, hP3⟩ := hP
  have hset : (va_pl Y.1 (ce G Y S)).set j (a, .inl (G.2.1 13, Y.2.2 a, .inl (upd (S.2.2.1 a) i.toNatClampNeg (vp_nar .char v)))) = va_pl Y.1 (ce G Y (S.1, S.2.1, upN S.2.2.1 a i.toNatClampNeg (vp_nar .char v), S.2.2.2)) := by
    rw [rows_up]
    have e := va_pl_set (X := []) hP2 ha hj0 (e := .inl (G.2.1 13, Y.2.2 a, .inl (upd (S.2.2.1 a) i.toNatClampNeg (vp_nar .char v))))
    exact e.trans (va_pl_congr (fun b => by have := ce_row (G := G) (S := S) (upd (S.2.2.1 a) i.toNatClampNeg (vp_nar .char v)) (Or.inl hk2) b; rw [hk2] at this; exact this))
  refine va_cast hx hb hKK.1 hP1 hP2 hP3 j 0 hj rfl hin hdg (fun H1 locs1 q1 q2 q3 => ?_)
  rw [hset] at q1 q2
  exact kk H1 locs1 ⟨q1, q2, q3⟩
theorem rw_ifnull (X : Cx p R s m args meth c own cc nL nf nl A G rt) {r : Option Nat} {off : Int} {tgt : Nat} (hdg : decode cc pc = .ok (.ifnull off, 3)) (ht : (pc : Int) + off = (tgt : Int))
    (kt : r = none → W p l e R s m args below meth c H locs cells slots Q (F0 m tgt ls rest)) (kf : ¬ r = none → W p l e R s m args below meth c H locs cells slots Q (F0 m (pc + 3) ls rest)) : W p l e R s m args below meth c H locs cells slots Q (F0 m pc ls (va_rf r :: rest)) := by
  cases r with
  | none => exact lv_ifnullN X.1.1 X.1.2.1 hdg ht (kt rfl)
  | some a => exact lv_ifnull X.1.1 X.1.2.1 hdg (kf (fun h => by cases h))
theorem rw_ifnonnull (X : Cx p R s m args meth c own cc nL nf nl A G rt) {r : Option Nat} {off : Int} {tgt : Nat} (hdg : decode cc pc = .ok (.ifnonnull off, 3)) (ht : (pc : Int) + off = (tgt : Int))
    (kt : ¬ r = none → W p l e R s m args below meth c H locs cells slots Q (F0 m tgt ls rest)) (kf : r = none → W p l e R s m args below meth c H locs cells slots Q (F0 m (pc + 3) ls rest)) : W p l e R s m args below meth c H locs cells slots Q (F0 m pc ls (va_rf r :: rest)) := by
  cases r with
  | none => exact lv_ifnonnullN X.1.1 X.1.2.1 hdg (kf rfl)
  | some a => exact lv_ifnonnull X.1.1 X.1.2.1 hdg ht (kt (fun h => by cases h))
theorem rw_aload_n (X : Cx p R s m args meth c own cc nL nf nl A G rt) {k : Fin 4} {i : Nat} {r : Option Nat} (hdg : decode cc pc = .ok (.aload_n k, 1)) (hi : (k : Nat) = i) (hl : ls[i]? = some (.val (va_rf r)))
    (kk : W p l e R s m args below meth c H locs cells slots Q (F0 m (pc + 1) ls (va_rf r :: rest))) : W p l e R s m args below meth c H locs cells slots Q (F0 m pc ls rest) := by
  cases r with
  | none => exact lv_aload_nN X.1.1 X.1.2.1 hdg hi hl kk
  | some a => exact lv_aload_n X.1.1 X.1.2.1 hdg hi hl kk
theorem rw_aload (X : Cx p R s m args meth c own cc nL nf nl A G rt) {i : Nat} {r : Option Nat} (hdg : decode cc pc = .ok (.aload i, 2)) (hl : ls[i]? = some (.val (va_rf r)))
    (kk : W p l e R s m args below meth c H locs cells slots Q (F0 m (pc + 2) ls (va_rf r :: rest))) : W p l e R s m args below meth c H locs cells slots Q (F0 m pc ls rest) := by
  cases r with
  | none => exact lv_aloadN X.1.1 X.1.2.1 hdg hl kk
  | some a => exact lv_aload X.1.1 X.1.2.1 hdg hl kk
theorem rw_astore_n (X : Cx p R s m args meth c own cc nL nf nl A G rt) {k : Fin 4} {i nL' : Nat} {r : Option Nat} {lv lv' : List (Nat × Value)} (hdg : decode cc pc = .ok (.astore_n k, 1)) (hi : (k : Nat) = i) (h : lv_has ls nL' lv) (hn : i < nL') (hl : (i, va_rf r) :: lv.filter (fun q => !(q.1 == i) && !(q.1 + 1 == i && q.2.category == 2)) = lv')
    (kk : ∀ ls' : Array Slot, lv_has ls' nL' lv' → W p l e R s m args below meth c H locs cells slots Q (F0 m (pc + 1) ls' rest)) : W p l e R s m args below meth c H locs cells slots Q (F0 m pc ls (va_rf r :: rest)) := by
  cases r with
  | none => exact lv_astore_nN X.1.1 X.1.2.1 hdg hi h hn hl kk
  | some a => exact lv_astore_n X.1.1 X.1.2.1 hdg hi h hn hl kk
theorem rw_astore (X : Cx p R s m args meth c own cc nL nf nl A G rt) {i nL' : Nat} {r : Option Nat} {lv lv' : List (Nat × Value)} (hdg : decode cc pc = .ok (.astore i, 2)) (h : lv_has ls nL' lv) (hn : i < nL') (hl : (i, va_rf r) :: lv.filter (fun q => !(q.1 == i) && !(q.1 + 1 == i && q.2.category == 2)) = lv')
    (kk : ∀ ls' : Array Slot, lv_has ls' nL' lv' → W p l e R s m args below meth c H locs cells slots Q (F0 m (pc + 2) ls' rest)) : W p l e R s m args below meth c H locs cells slots Q (F0 m pc ls (va_rf r :: rest)) := by
  cases r with
  | none => exact lv_astoreN X.1.1 X.1.2.1 hdg h hn hl kk
  | some a => exact lv_astore X.1.1 X.1.2.1 hdg h hn hl kk
theorem rw_iret (X : Cx p R s m args meth c own cc nL nf nl (fun q => q ∈ Y.1) G (some .int)) {v : Int32} (hdg : decode cc pc = .ok (.ireturn, 1)) (hP : HP (fun q => q ∈ Y.1) G Y s S H locs) : W p l e R s m args below meth c H locs 0 0 (MQ below (QI G Y S (some (.int v))) args s 0 0 (fun q => q ∈ Y.1)) (F0 m pc ls [.int v]) := by
  obtain ⟨⟨hx, hb, -⟩, -, -, hlocks, hr, -⟩ := X
  exact W.iret hx hb hr (fun t ht hW => ⟨rfl, by rw [ht]; exact hP.1, hP.2.2.F ht⟩) hP.2.2.2.2 hdg
theorem rw_zret (X : Cx p R s m args meth c own cc nL nf nl (fun q => q ∈ Y.1) G (some .boolean)) {v : Int32} (hv : v = 0 ∨ v = 1) (hdg : decode cc pc = .ok (.ireturn, 1)) (hP : HP (fun q => q ∈ Y.1) G Y s S H locs) : W p l e R s m args below meth c H locs 0 0 (MQ below (QI G Y S (some (.int v))) args s 0 0 (fun q => q ∈ Y.1)) (F0 m pc ls [.int v]) := by
  obtain ⟨⟨hx, hb, -⟩, -, -, hlocks, hr, -⟩ := X
  exact W.zret hx hb hr (by rcases hv with rfl | rfl <;> decide +kernel) (fun t ht hW => ⟨rfl, by rw [ht]; exact hP.1, hP.2.2.F ht⟩) hP.2.2.2.2 hdg
theorem rw_aret (X : Cx p R s m args meth c own cc nL nf nl (fun q => q ∈ Y.1) G (some (.object "BehaviorRunner$Node"))) {r : Option Nat} (hdg : decode cc pc = .ok (.areturn, 1)) (hP : HP (fun q => q ∈ Y.1) G Y s S H locs) : W p l e R s m args below meth c H locs 0 0 (MQ below (QI G Y S (some (va_rf r))) args s 0 0 (fun q => q ∈ Y.1)) (F0 m pc ls [va_rf r]) := by
  obtain ⟨⟨hx, hb, -⟩, -, -, hlocks, hr, -⟩ := X
  exact W.aret hx hb hr (Or.inl ⟨_, rfl⟩) (by cases r <;> first | exact Or.inl rfl | exact Or.inr ⟨_, rfl⟩) (fun t ht hW => ⟨rfl, by rw [ht]; exact hP.1, hP.2.2.F ht⟩) hP.2.2.2.2 hdg
theorem rw_vret (X : Cx p R s m args meth c own cc nL nf nl (fun q => q ∈ Y.1) G none) (hdg : decode cc pc = .ok (.return_, 1)) (hP : HP (fun q => q ∈ Y.1) G Y s S H locs) : W p l e R s m args below meth c H locs 0 0 (MQ below (QI G Y S none) args s 0 0 (fun q => q ∈ Y.1)) (F0 m pc ls []) := by
  obtain ⟨⟨hx, hb, -⟩, -, -, hlocks, hr, -⟩ := X
  exact W.vret hx hb hr (fun t ht hW => ⟨rfl, by rw [ht]; exact hP.1, hP.2.2.F ht⟩) hP.2.2.2.2 hdg
theorem rw_ldc (X : Cx p R s m args meth c own cc nL nf nl A G rt) {index : Nat} {v : Int32} (hc : Cond.constant own index v ∈ TBL) (hdg : decode cc pc = .ok (.ldc index, 2)) (kk : W p l e R s m args below meth c H locs cells slots Q (F0 m (pc + 2) ls (.int v :: rest))) : W p l e R s m args below meth c H locs cells slots Q (F0 m pc ls rest) :=
  lv_ldc X.1.1 X.1.2.1 X.1.2.2.2.1 (X.1.2.2.2.2 _ hc) hdg kk
/-- behind a call -/
theorem rw_after {st0 : List Value} {a : Array Value} {rv : Option Value} (hr : va_Run p l e R s m args below meth c H locs cells slots 0 0 (F0 m pc ls st0) rest (QI G Y S1 rv a) (fun q => q ∈ Y.1)) (hP : HP A G Y s S H locs)
    (kk : ∀ (H1 : Heap) (locs1 : List Loc), HP A G Y s S1 H1 locs1 → W p l e R s m args below meth c H1 locs1 cells slots Q (F0 m (pc + 3) ls (rv.toList ++ rest))) : W p l e R s m args below meth c H locs cells slots Q (F0 m pc ls st0) := by
  intro T hT X
  obtain ⟨v, st₀, t, T', L, h0, X', hL, e1, e2, ⟨ho, hW, hz, hk⟩, st⟩ := hr T hT X
  cases ho
  rw [h0] at hz hk
  obtain ⟨hP1, hP2, hS⟩ := hP
  have hA : ∀ q, q ∈ Y.1 → A q := fun q h => WD_in hP2 h
  obtain ⟨t2, a1, b1⟩ := kk T'.heap (locs ++ L) ⟨by rw [e1]; exact hW, WD_eq hP2, Nat.le_trans hS.1 (by rw [e1]; exact hz), fun q h1 h2 => by rw [e1, hk q (Nat.lt_of_lt_of_le h1 hS.1) (fun z => h2 (hA q z))]; exact hS.2.1 q h1 h2, fun q hq => by
      rcases List.mem_append.mp hq with h | h
      · exact hS.2.2 q h
      · exact hA _ (hL q h)⟩ T' rfl X'
  exact ⟨t2, st t2 a1, b1⟩
theorem preW_of (X : Cx p R s m args meth c own cc nL nf nl A G rt) (hP : HP A G Y s S H locs) {av : List Value} (U : State) (hU : U.heap = H) (hW : s.WarmedH U.vm) : PreW G Y S av av.toArray U := by
  obtain ⟨-, hKK, hST, -⟩ := X
  obtain ⟨hP1, hP2, hS⟩ := hP
  refine ⟨rfl, by rw [hU]; exact hP1, ⟨hP2.1, fun k q hk => ?_⟩, hKK.warm hW, ?_⟩
  · simp only [va_pl, List.getElem?_map] at hk
    cases hb : Y.1[k]? with
    | none => rw [hb] at hk; cases hk
    | some b => rw [hb] at hk; cases hk; exact List.mem_of_getElem? hb
  · rw [hU]
    exact ((hST.kept hS.2.1).narrow (fun q h => WD_in hP2 h)).warm hW
theorem preW_blind {av : List Value} : FrameBlind (PreW G Y S av) := by
  intro a U g mk h
  obtain ⟨h1, h2, h3, h4, h5⟩ := h
  exact ⟨h1, h2, h3, KK.same (s := U) (U := U.calling g mk a) rfl h4, STR.same (s := U) (U := U.calling g mk a) rfl h5⟩
theorem rw_callV (X : Cx p R s m args meth c own cc nL nf nl A G rt) {index cN : Nat} {y : MethodName} {b : ByteArray} {n f lo : Nat} {ret : Option FieldType} {r0 : Option Nat} {u : Unit} {As st0 : List Value} {rv : Option Value}
    (hdg : decode cc pc = .ok (.invokevirtual index, 3)) (hC : CLv own index y b n ret) (hy : PY y As.length) (hM : MM l y b n ret f lo G Y S (va_rf r0 :: As) S1 rv) (hroom : f + 1 ≤ nf ∧ 8 + (n + 11) + lo ≤ nl) (hrc : rcv Y cN r0 = some u) (hcN : (vwCl[cN]?).map (fun q => q.1) = some y.cls) (hP : HP A G Y s S H locs)
    (hst : st0 = As.reverse ++ va_rf r0 :: rest) (hcat : (rest.map fun v => v.category).sum ≤ 8) (hsz : ls.size = nL)
    (kk : ∀ (H1 : Heap) (locs1 : List Loc), HP A G Y s S1 H1 locs1 → W p l e R s m args below meth c H1 locs1 0 0 Q (F0 m (pc + 3) ls (rv.toList ++ rest))) : W p l e R s m args below meth c H locs 0 0 Q (F0 m pc ls st0) := by
  obtain ⟨a, rfl, hc, -⟩ := rc_some hrc
  have hX := X
  obtain ⟨hfix, hKK, hST, hlocks, hrt, hnf, hnl, hz1, hz2⟩ := X
  obtain ⟨c1, c2, c3, c4, c5⟩ := hC
  obtain ⟨ha, hk2⟩ := chk_in hc
  obtain ⟨q, hq, hq2⟩ := Option.map_eq_some_iff.mp hcN
  obtain ⟨h6, h7⟩ := vw_nfl hq
  obtain ⟨i, hi⟩ := va_pl_get (X := []) (f := ce G Y S) ha
  rw [ce_obj h6 hk2] at hi
  have hrecv := va_recv hKK.1 hP.1 hq hi
  rw [hq2] at hrecv
  have hG : GoodIn TBL (wsV own index y.cls y (.code y b n ret :: TBL)) := by
    intro w hw
    have hm : w ∈ TBL := by
      simp only [wsV, List.cons_append, List.nil_append, List.mem_cons] at hw
      rcases hw with rfl | rfl | rfl | rfl | rfl | hw
      · exact c1
      · exact c4
      · exact c5
      · exact c3
      · exact c2
      · exact hw
    exact tbl_good w hm
  refine rw_after (va_runV (As := As) (rest := rest) hfix hM (cwV As.length hfix.2.2.2.2 hG rfl rfl rfl ⟨rfl, hy.1, hy.2.1, hy.2.2⟩ ⟨Nat.le_trans hroom.1 hnf, Nat.le_trans hroom.2 hnl⟩) ⟨preW_blind, hrecv, fun U hU hW => preW_of hX hP U hU hW⟩ rfl rfl hsz hst (lv_room hcat) hdg ⟨hz1, hz2⟩) hP kk
theorem rw_callS (X : Cx p R s m args meth c own cc nL nf nl A G rt) {index : Nat} {y : MethodName} {b : ByteArray} {n f lo : Nat} {ret : Option FieldType} {As st0 : List Value} {rv : Option Value}
    (hdg : decode cc pc = .ok (.invokestatic index, 3)) (hC : CLs own index y b n ret) (hy : PY y As.length) (hM : MM l y b n ret f lo G Y S As S1 rv) (hroom : f + 1 ≤ nf ∧ 8 + (n + 11) + lo ≤ nl) (hP : HP A G Y s S H locs)
    (hst : st0 = As.reverse ++ rest) (hcat : (rest.map fun v => v.category).sum ≤ 8) (hsz : ls.size = nL)
    (kk : ∀ (H1 : Heap) (locs1 : List Loc), HP A G Y s S1 H1 locs1 → W p l e R s m args below meth c H1 locs1 0 0 Q (F0 m (pc + 3) ls (rv.toList ++ rest))) : W p l e R s m args below meth c H locs 0 0 Q (F0 m pc ls st0) := by
  have hX := X
  obtain ⟨hfix, hKK, hST, hlocks, hrt, hnf, hnl, hz1, hz2⟩ := X
  obtain ⟨c1, c2, c3, c4⟩ := hC
  have hts := hfix.2.2.2.2
  have hG : GoodIn TBL (.code y b n ret :: TBL) := by
    intro w hw
    have hm : w ∈ TBL := by
      rcases List.mem_cons.mp hw with rfl | hw
      · exact c2
      · exact hw
    exact tbl_good w hm
  have cb : CallB R s args own index y b n ret (.code y b n ret :: TBL) (RM f lo) 0 0 As.length := callB_of As.length hts hG rfl rfl rfl (hts _ c3) (hts _ c1) ⟨hy.1, hy.2.1, hy.2.2⟩ ⟨Nat.le_trans hroom.1 hnf, Nat.le_trans hroom.2 hnl⟩
  refine rw_after (va_runS (As := As) (rest := rest) hfix hM ⟨cb, hts _ c4⟩ ⟨preW_blind, fun U hU hW => preW_of hX hP U hU hW⟩ rfl rfl hsz hst (lv_room hcat) hdg ⟨hz1, hz2⟩) hP kk
/-- a method's entry -/
theorem mm_of {y : MethodName} {b : ByteArray} {n f lo : Nat} {ret : Option FieldType} {av : List Value} {rv : Option Value} (hy : plainFor y = true) (hlen : (lg_sl av).length ≤ n)
    (body : ∀ p e R s m args below meth c, Cx p R s m args meth c y.cls b n f lo (fun q => q ∈ Y.1) G ret → ∀ H locs ls, HP (fun q => q ∈ Y.1) G Y s S H locs → lv_has ls n (lv_args 0 av) → W p l e R s m args below meth c H locs 0 0 (MQ below (QI G Y S1 rv) args s 0 0 (fun q => q ∈ Y.1)) (F0 m 0 ls [])) : MM l y b n ret f lo G Y S av S1 rv := by
  refine va_MetF (cc := b) (maxL := n) (ret := ret) hy rfl ?_
  intro p e s m args below meth c s₁ B hml hv
  obtain ⟨rfl, hP, hD, hKK, hST⟩ := hv
  have hts := atoms_spec (ws := (.code y b n ret :: TBL)) B.pre
  have hown : s.vm.findClass y.cls = some m.cls := findClass_of_methodNamed B.named
  have hl := lv_entry av (n := n) hlen
  rw [lg_entry_eq]
  exact body p e _ s m _ below meth c ⟨⟨B.exec, B.bytes, hml, hown, fun w hw => hts w (List.mem_cons_of_mem _ hw)⟩, hKK, hST, B.notSynchronized, B.returns, Nat.le_refl _, Nat.le_refl _, Nat.le_refl _, Nat.le_refl _⟩ s.heap [] _ ⟨hP, hD, va_S.rf⟩ hl
end RW
end
section
/-! locals of one-slot values; calls by their kind of answer; the JDK's members -/
theorem ci (x : Int32) : (Value.int x).category = 1 := rfl
theorem cr (r : Option Nat) : (va_rf r).category = 1 := by cases r <;> rfl
theorem ca (a : Nat) : (Value.ref a).category = 1 := rfl
theorem c1n : ∀ v ∈ ([] : List Value), v.category = 1 := fun _ h => absurd h List.not_mem_nil
theorem c1c {v : Value} {vs : List Value} (h : v.category = 1) (hs : ∀ v ∈ vs, v.category = 1) : ∀ w ∈ v :: vs, w.category = 1 := List.forall_mem_cons.mpr ⟨h, hs⟩
theorem catL {vs : List Value} (h : ∀ v ∈ vs, v.category = 1) (hl : vs.length ≤ 8) : (vs.map fun v => v.category).sum ≤ 8 := by
  have key : ∀ vs : List Value, (∀ v ∈ vs, v.category = 1) → (vs.map fun v => v.category).sum = vs.length := by
    intro vs
    induction vs with
    | nil => intro _; rfl
    | cons v vs ih =>
      intro h
      rw [List.map_cons, List.sum_cons, h v List.mem_cons_self, ih (fun w hw => h w (List.mem_cons_of_mem _ hw)), List.length_cons]
      omega
  rw [key vs h]
  exact hl
def LV (ls : Array Slot) (nL : Nat) (l : List (Nat × Value)) : Prop := lv_has ls nL l ∧ ∀ q ∈ l, q.2.category = 1
theorem LV.at {ls : Array Slot} {nL : Nat} {l : List (Nat × Value)} (h : LV ls nL l) (k : Nat) {i : Nat} {v : Value} (hk : l[k]? = some (i, v)) : ls[i]? = some (.val v) := lv_at h.1 k hk
theorem LV.sub {ls : Array Slot} {nL : Nat} {l l' : List (Nat × Value)} (h : LV ls nL l) (ks : List Nat) (hl : lv_pick l ks = l') : LV ls nL l' := by
  refine ⟨lv_sub h.1 ks hl, fun q hq => ?_⟩
  rw [← hl] at hq
  obtain ⟨k, -, hk⟩ := List.mem_filterMap.mp hq
  exact h.2 q (List.mem_of_getElem? hk)
theorem LV.st {ls ls' : Array Slot} {nL i : Nat} {v : Value} {lv lv' : List (Nat × Value)} (h0 : LV ls nL lv) (hv : v.category = 1) (hl : (i, v) :: lv.filter (fun q => !(q.1 == i)) = lv') (h : lv_has ls' nL ((i, v) :: lv.filter (fun q => !(q.1 == i) && !(q.1 + 1 == i && q.2.category == 2)))) : LV ls' nL lv' := by
  subst hl
  have e : lv.filter (fun q => !(q.1 == i) && !(q.1 + 1 == i && q.2.category == 2)) = lv.filter (fun q => !(q.1 == i)) := by
    apply List.filter_congr
    intro q hq
    have : (q.2.category == 2) = false := by rw [h0.2 q hq]; rfl
    rw [this, Bool.and_false, Bool.not_false, Bool.and_true]
  rw [e] at h
  refine ⟨h, fun q hq => ?_⟩
  rcases List.mem_cons.mp hq with rfl | hq
  · exact hv
  · exact h0.2 q (List.mem_filter.mp hq).1
def lvx : Nat → List Value → List (Nat × Value)
  | _, [] => []
  | i, v :: vs => (i, v) :: lvx (i + 1) vs
theorem lvx_eq : ∀ (vs : List Value) (i : Nat), (∀ v ∈ vs, v.category = 1) → lv_args i vs = lvx i vs
  | [], _, _ => rfl
  | v :: vs, i, h => by
    have h1 : ¬ v.category = 2 := by rw [h v List.mem_cons_self]; decide
    simp only [lv_args, h1, if_false, lvx]
    rw [lvx_eq vs (i + 1) (fun w hw => h w (List.mem_cons_of_mem _ hw))]
theorem lvx_cat : ∀ (vs : List Value) (i : Nat), (∀ v ∈ vs, v.category = 1) → ∀ q ∈ lvx i vs, q.2.category = 1
  | [], _, _ => fun q h => absurd h List.not_mem_nil
  | v :: vs, i, h => fun q hq => by
    rcases List.mem_cons.mp hq with rfl | hq
    · exact h v List.mem_cons_self
    · exact lvx_cat vs (i + 1) (fun w hw => h w (List.mem_cons_of_mem _ hw)) q hq
theorem lg_len : ∀ (vs : List Value), (∀ v ∈ vs, v.category = 1) → (lg_sl vs).length = vs.length
  | [], _ => rfl
  | v :: vs, h => by
    have h1 : ¬ v.category = 2 := by rw [h v List.mem_cons_self]; decide
    have e : lg_sl (v :: vs) = [Slot.val v] ++ lg_sl vs := by simp [lg_sl, h1]
    rw [e, List.length_append, lg_len vs (fun w hw => h w (List.mem_cons_of_mem _ hw)), List.length_cons]
    simp; omega
def jmax (x y : Int32) : Int32 := if x < y then y else x
def jmin (x y : Int32) : Int32 := if y < x then y else x
/-- a String constant's length, its char, where a char stands in it -/
def sLen (i : Nat) : Int32 := nI (lenJS.getD i 0)
def sCh (i : Nat) (k : Int32) : Option Int32 := if decide (i < 3) && inr k (lenJS.getD i 0) then some ((bytJS.getD i []).getD k.toNatClampNeg 0) else none
def sIxF (c : Int32) : List Int32 → Nat → Int32
  | [], _ => -1
  | b :: l, k => if b = c then nI k else sIxF c l (k + 1)
def sIx (i : Nat) (c : Int32) : Option Int32 := if i < 3 then some (sIxF c (bytJS.getD i []) 0) else none
def FU : Nat := 2000
theorem tb_max : Cond.static Lib.Math.max.name ∈ TBL ∧ Cond.initialized "java/lang/Math" ∈ TBL ∧ Cond.code Lib.Math.max.name Lib.Math.max.code 2 (some .int) ∈ TBL := ⟨tb_of (tb2 205 rfl) rfl, tb_of (tb1 15 rfl) rfl, tb_of (tb2 206 (by decide +kernel)) rfl⟩
theorem tb_min : Cond.static Lib.Math.min.name ∈ TBL ∧ Cond.initialized "java/lang/Math" ∈ TBL ∧ Cond.code Lib.Math.min.name Lib.Math.min.code 2 (some .int) ∈ TBL := ⟨tb_of (tb2 208 rfl) rfl, tb_of (tb1 15 rfl) rfl, tb_of (tb2 209 (by decide +kernel)) rfl⟩
theorem tb_copy : Cond.native arraycopyName ∈ TBL ∧ Cond.static arraycopyName ∈ TBL ∧ Cond.initialized "java/lang/System" ∈ TBL := ⟨tb_of (tb3 235 rfl) rfl, tb_of (tb3 234 rfl) rfl, tb_of (tb1 19 rfl) rfl⟩
theorem mlX0_53 : Cond.methodLink RX0 53 Lib.Math.min.name ∈ TBL := tb_of (tb3 153 rfl) rfl
theorem mlX0_59 : Cond.methodLink RX0 59 Lib.Math.max.name ∈ TBL := tb_of (tb3 154 rfl) rfl
theorem mlX2_64 : Cond.methodLink RX2 64 Lib.Math.min.name ∈ TBL := tb_of (tb4 38 rfl) rfl
theorem mlX0_15 : Cond.methodLink RX0 15 arraycopyName ∈ TBL := tb_of (tb3 233 rfl) rfl
theorem mlX2_47 : Cond.methodLink RX2 47 arraycopyName ∈ TBL := tb_of (tb4 0 rfl) rfl
theorem kX11_105 : Cond.constant RX11 105 1000000 ∈ TBL := tb_of (tb3 215 rfl) rfl
section RV
variable {p : Program} {l : Launch} {e : Env} {R : Room} {s : State} {m : MethodId} {args : Array Value} {below : List Frame} {meth : Method} {c : Code} {H : Heap} {locs : List Loc} {cells slots : Nat} {Q : State → Prop}
variable {own : String} {cc : ByteArray} {nL nf nl : Nat} {A : Nat → Prop} {G : GG} {rt : Option FieldType} {Y : LY} {S S1 : HS} {pc : Nat} {ls : Array Slot} {rest : List Value}
theorem rv_istore_n (X : Cx p R s m args meth c own cc nL nf nl A G rt) {k : Fin 4} {i nL' : Nat} {x : Int32} {lv lv' : List (Nat × Value)} (hdg : decode cc pc = .ok (.istore_n k, 1)) (hi : (k : Nat) = i) (h : LV ls nL' lv) (hn : i < nL') (hl : (i, Value.int x) :: lv.filter (fun q => !(q.1 == i)) = lv')
    (kk : ∀ ls' : Array Slot, LV ls' nL' lv' → W p l e R s m args below meth c H locs cells slots Q (F0 m (pc + 1) ls' rest)) : W p l e R s m args below meth c H locs cells slots Q (F0 m pc ls (.int x :: rest)) :=
  lv_istore_n X.1.1 X.1.2.1 hdg hi h.1 hn rfl (fun ls' h' => kk ls' (h.st rfl hl h'))
theorem rv_istore (X : Cx p R s m args meth c own cc nL nf nl A G rt) {i nL' : Nat} {x : Int32} {lv lv' : List (Nat × Value)} (hdg : decode cc pc = .ok (.istore i, 2)) (h : LV ls nL' lv) (hn : i < nL') (hl : (i, Value.int x) :: lv.filter (fun q => !(q.1 == i)) = lv')
    (kk : ∀ ls' : Array Slot, LV ls' nL' lv' → W p l e R s m args below meth c H locs cells slots Q (F0 m (pc + 2) ls' rest)) : W p l e R s m args below meth c H locs cells slots Q (F0 m pc ls (.int x :: rest)) :=
  lv_istore X.1.1 X.1.2.1 hdg h.1 hn rfl (fun ls' h' => kk ls' (h.st rfl hl h'))
theorem rv_astore_n (X : Cx p R s m args meth c own cc nL nf nl A G rt) {k : Fin 4} {i nL' : Nat} {r : Option Nat} {lv lv' : List (Nat × Value)} (hdg : decode cc pc = .ok (.astore_n k, 1)) (hi : (k : Nat) = i) (h : LV ls nL' lv) (hn : i < nL') (hl : (i, va_rf r) :: lv.filter (fun q => !(q.1 == i)) = lv')
    (kk : ∀ ls' : Array Slot, LV ls' nL' lv' → W p l e R s m args below meth c H locs cells slots Q (F0 m (pc + 1) ls' rest)) : W p l e R s m args below meth c H locs cells slots Q (F0 m pc ls (va_rf r :: rest)) :=
  rw_astore_n X hdg hi h.1 hn rfl (fun ls' h' => kk ls' (h.st (cr r) hl h'))
theorem rv_astore (X : Cx p R s m args meth c own cc nL nf nl A G rt) {i nL' : Nat} {r : Option Nat} {lv lv' : List (Nat × Value)} (hdg : decode cc pc = .ok (.astore i, 2)) (h : LV ls nL' lv) (hn : i < nL') (hl : (i, va_rf r) :: lv.filter (fun q => !(q.1 == i)) = lv')
    (kk : ∀ ls' : Array Slot, LV ls' nL' lv' → W p l e R s m args below meth c H locs cells slots Q (F0 m (pc + 2) ls' rest)) : W p l e R s m args below meth c H locs cells slots Q (F0 m pc ls (va_rf r :: rest)) :=
  rw_astore X hdg h.1 hn rfl (fun ls' h' => kk ls' (h.st (cr r) hl h'))
theorem rv_iinc (X : Cx p R s m args meth c own cc nL nf nl A G rt) {i nL' k : Nat} {n : Int} {x d : Int32} {lv lv' : List (Nat × Value)} (hdg : decode cc pc = .ok (.iinc i n, 3)) (h : LV ls nL' lv) (hk : lv[k]? = some (i, .int x)) (hv : Int32.ofInt n = d) (hn : i < nL') (hl : (i, Value.int (x + d)) :: lv.filter (fun q => !(q.1 == i)) = lv')
    (kk : ∀ ls' : Array Slot, LV ls' nL' lv' → W p l e R s m args below meth c H locs cells slots Q (F0 m (pc + 3) ls' rest)) : W p l e R s m args below meth c H locs cells slots Q (F0 m pc ls rest) :=
  lv_iinc X.1.1 X.1.2.1 hdg h.1 hk (by rw [hv]) hn rfl (fun ls' h' => kk ls' (h.st rfl hl h'))
theorem rv_max (X : Cx p R s m args meth c own cc nL nf nl A G rt) {index : Nat} {x y : Int32} (hl : Cond.methodLink own index Lib.Math.max.name ∈ TBL) (hr : 1 ≤ nf ∧ rest.length + 13 ≤ nl) (hc : ∀ v ∈ rest, v.category = 1) (hsz : ls.size = nL) (hdg : decode cc pc = .ok (.invokestatic index, 3))
    (kk : W p l e R s m args below meth c H locs 0 0 Q (F0 m (pc + 3) ls (.int (jmax x y) :: rest))) : W p l e R s m args below meth c H locs 0 0 Q (F0 m pc ls (.int y :: .int x :: rest)) := by
  obtain ⟨⟨hx, hb, hml, hown, hts⟩, -, -, -, -, hnf, hnl, hz1, hz2⟩ := X
  have hsum : (rest.map fun v => v.category).sum + 13 ≤ R.locals := by
    have key : ∀ vs : List Value, (∀ v ∈ vs, v.category = 1) → (vs.map fun v => v.category).sum = vs.length := by
      intro vs
      induction vs with
      | nil => intro _; rfl
      | cons v vs ih =>
        intro h
        rw [List.map_cons, List.sum_cons, h v List.mem_cons_self, ih (fun w hw => h w (List.mem_cons_of_mem _ hw)), List.length_cons]
        omega
    rw [key rest hc]
    omega
  exact va_mmax hx hb (hml.trans hsz.symm) hown (hts _ hl) (hts _ tb_max.1) (hts _ tb_max.2.1) (hts _ tb_max.2.2) (by omega) hsum hz1 hz2 hdg kk
theorem rv_min (X : Cx p R s m args meth c own cc nL nf nl A G rt) {index : Nat} {x y : Int32} (hl : Cond.methodLink own index Lib.Math.min.name ∈ TBL) (hr : 1 ≤ nf ∧ rest.length + 13 ≤ nl) (hc : ∀ v ∈ rest, v.category = 1) (hsz : ls.size = nL) (hdg : decode cc pc = .ok (.invokestatic index, 3))
    (kk : W p l e R s m args below meth c H locs 0 0 Q (F0 m (pc + 3) ls (.int (jmin x y) :: rest))) : W p l e R s m args below meth c H locs 0 0 Q (F0 m pc ls (.int y :: .int x :: rest)) := by
  obtain ⟨⟨hx, hb, hml, hown, hts⟩, -, -, -, -, hnf, hnl, hz1, hz2⟩ := X
  have hsum : (rest.map fun v => v.category).sum + 13 ≤ R.locals := by
    have key : ∀ vs : List Value, (∀ v ∈ vs, v.category = 1) → (vs.map fun v => v.category).sum = vs.length := by
      intro vs
      induction vs with
      | nil => intro _; rfl
      | cons v vs ih =>
        intro h
        rw [List.map_cons, List.sum_cons, h v List.mem_cons_self, ih (fun w hw => h w (List.mem_cons_of_mem _ hw)), List.length_cons]
        omega
    rw [key rest hc]
    omega
  exact va_mmin hx hb (hml.trans hsz.symm) hown (hts _ hl) (hts _ tb_min.1) (hts _ tb_min.2.1) (hts _ tb_min.2.2) (by omega) hsum hz1 hz2 hdg kk
theorem ce_row2 {a : Nat} (g : Nat → Int32) (hk : Y.2.1 a = 14) (b : Nat) : va_up (ce G Y S) a (.inl (G.2.1 14, Y.2.2 a, .inl g)) b = ce G Y (S.1, S.2.1, va_up S.2.2.1 a g, S.2.2.2) b := by
  have := ce_row (G := G) (S := S) g (Or.inr hk) b
  rw [hk] at this
  exact this
theorem rv_copy (X : Cx p R s m args meth c own cc nL nf nl A G rt) {index : Nat} {r0 r1 : Option Nat} {sp dp n : Int32} (hlk : Cond.methodLink own index arraycopyName ∈ TBL) (h : cpA Y r0 sp r1 dp n S = some S1) (hr : 1 ≤ nf ∧ nativeFrameWords "java/lang/System" "arraycopy" 5 + 11 ≤ nl) (hsz : ls.size = nL) (hdg : decode cc pc = .ok (.invokestatic index, 3)) (hP : HP A G Y s S H locs)
    (kk : ∀ (H : Heap) (locs : List Loc), HP A G Y s S1 H locs → W p l e R s m args below meth c H locs cells slots Q (F0 m (pc + 3) ls [])) : W p l e R s m args below meth c H locs cells slots Q (F0 m pc ls (.int n :: .int dp :: va_rf r1 :: .int sp :: va_rf r0 :: [])) := by
  obtain ⟨⟨hx, hb, hml, hown, hts⟩, hKK, -, -, -, hnf, hnl, hz1, hz2⟩ := X
  unfold cpA at h
  cases r0 with
  | none => cases h
  | some a =>
    cases r1 with
    | none => cases h
    | some b =>
      have h' : (if (chk Y 14 a && chk Y 14 b) = true ∧ ¬ sp < 0 ∧ ¬ dp < 0 ∧ ¬ n < 0 ∧ sp.toNatClampNeg + n.toNatClampNeg ≤ Y.2.2 a ∧ dp.toNatClampNeg + n.toNatClampNeg ≤ Y.2.2 b then some (S.1, S.2.1, va_up S.2.2.1 b (va_cpy (S.2.2.1 a) (S.2.2.1 b) sp.toNatClampNeg dp.toNatClampNeg n.toNatClampNeg), S.2.2.2) else none) = some S1 := h
      by_cases hc : (chk Y 14 a && chk Y 14 b) = true ∧ ¬ sp < 0 ∧ ¬ dp < 0 ∧ ¬ n < 0 ∧ sp.toNatClampNeg + n.toNatClampNeg ≤ Y.2.2 a ∧ dp.toNatClampNeg + n.toNatClampNeg ≤ Y.2.2 b
      · rw [if_pos hc] at h'
        cases h'
        obtain ⟨g0, g1, g2, g3, g4, g5⟩ := hc
        rw [Bool.and_eq_true] at g0
        obtain ⟨ha, hka⟩ := chk_in g0.1
        obtain ⟨hb2, hkb⟩ := chk_in g0.2
        obtain ⟨i, hi⟩ := va_pl_get (X := []) (f := ce G Y S) ha
        obtain ⟨j, hj⟩ := va_pl_get (X := []) (f := ce G Y S) hb2
        have hj0 := hj
        rw [ce_14 hka] at hi
        rw [ce_14 hkb] at hj
        obtain ⟨hP1, hP2, hP3⟩ := hP
        have hset : (va_pl Y.1 (ce G Y S)).set j (b, .inl (G.2.1 14, Y.2.2 b, .inl (va_cpy (S.2.2.1 a) (S.2.2.1 b) sp.toNatClampNeg dp.toNatClampNeg n.toNatClampNeg))) = va_pl Y.1 (ce G Y (S.1, S.2.1, va_up S.2.2.1 b (va_cpy (S.2.2.1 a) (S.2.2.1 b) sp.toNatClampNeg dp.toNatClampNeg n.toNatClampNeg), S.2.2.2)) := by
          have e := va_pl_set (X := []) hP2 hb2 hj0 (e := .inl (G.2.1 14, Y.2.2 b, .inl (va_cpy (S.2.2.1 a) (S.2.2.1 b) sp.toNatClampNeg dp.toNatClampNeg n.toNatClampNeg)))
          exact e.trans (va_pl_congr (fun q => ce_row2 _ hkb q))
        refine va_copyi (ty := .int) hx hb (hml.trans hsz.symm) hown (hts _ hlk) (hts _ tb_copy.1) (hts _ tb_copy.2.1) (hts _ tb_copy.2.2) hKK.1 hP1 hP2 hP3 i j 1 1 hi hj rfl rfl rfl g1 g2 g3 g4 g5 (fun _ _ => rfl) (by omega) (by show 0 + _ ≤ _; omega) hdg (fun H1 locs1 q1 q2 q3 => ?_)
        rw [hset] at q1 q2
        exact kk H1 locs1 ⟨q1, q2, q3⟩
      · rw [if_neg hc] at h'
        cases h'
theorem tsw {x : Int32} {k : Int} {v : Int32} (hv : v.toInt = k) (h : ¬ x = v) : x.toInt ≠ k := fun h1 => h (Int32.toInt_inj.mp (h1.trans hv.symm))
theorem mm_of2 {y : MethodName} {b : ByteArray} {n f lo : Nat} {ret : Option FieldType} {av : List Value} {rv : Option Value} (hy : plainFor y = true) (hlen : av.length ≤ n) (hc : ∀ v ∈ av, v.category = 1)
    (body : ∀ p e R s m args below meth c, Cx p R s m args meth c y.cls b n f lo (fun q => q ∈ Y.1) G ret → ∀ H locs ls, HP (fun q => q ∈ Y.1) G Y s S H locs → LV ls n (lvx 0 av) → W p l e R s m args below meth c H locs 0 0 (MQ below (QI G Y S1 rv) args s 0 0 (fun q => q ∈ Y.1)) (F0 m 0 ls [])) : MM l y b n ret f lo G Y S av S1 rv :=
  mm_of hy (by rw [lg_len av hc]; exact hlen) (fun p e R s m args below meth c X H locs ls hP hl => body p e R s m args below meth c X H locs ls hP ⟨by rw [lvx_eq av 0 hc] at hl; exact hl, lvx_cat av 0 hc⟩)
end RV
end
section
/-! calls by their kind of answer; rows of the String constants -/
theorem zr_some {v w : Int32} (h : zr v = some w) : (w = 0 ∨ w = 1) ∧ v = w := by
  unfold zr at h
  by_cases hv : v = 0 ∨ v = 1
  · rw [if_pos hv] at h
    cases h
    exact ⟨hv, rfl⟩
  · rw [if_neg hv] at h
    cases h
section RC
variable {p : Program} {l : Launch} {e : Env} {R : Room} {s : State} {m : MethodId} {args : Array Value} {below : List Frame} {meth : Method} {c : Code} {H : Heap} {locs : List Loc} {Q : State → Prop}
variable {own : String} {cc : ByteArray} {nL nf nl : Nat} {A : Nat → Prop} {G : GG} {rt : Option FieldType} {Y : LY} {S S1 : HS} {pc : Nat} {ls : Array Slot} {rest : List Value}
theorem rw_callVi (X : Cx p R s m args meth c own cc nL nf nl A G rt) {index cN : Nat} {y : MethodName} {b : ByteArray} {n f lo : Nat} {ret : Option FieldType} {r0 : Option Nat} {u : Unit} {As st0 : List Value} {v : Int32}
    (hdg : decode cc pc = .ok (.invokevirtual index, 3)) (hC : CLv own index y b n ret) (hy : PY y As.length) (hM : MM l y b n ret f lo G Y S (va_rf r0 :: As) S1 (some (.int v))) (hroom : f + 1 ≤ nf ∧ 8 + (n + 11) + lo ≤ nl) (hrc : rcv Y cN r0 = some u) (hcN : (vwCl[cN]?).map (fun q => q.1) = some y.cls) (hP : HP A G Y s S H locs)
    (hst : st0 = As.reverse ++ va_rf r0 :: rest) (hcat : (rest.map fun v => v.category).sum ≤ 8) (hsz : ls.size = nL)
    (kk : ∀ (H1 : Heap) (locs1 : List Loc), HP A G Y s S1 H1 locs1 → W p l e R s m args below meth c H1 locs1 0 0 Q (F0 m (pc + 3) ls (.int v :: rest))) : W p l e R s m args below meth c H locs 0 0 Q (F0 m pc ls st0) :=
  rw_callV X hdg hC hy hM hroom hrc hcN hP hst hcat hsz kk
theorem rw_callVr (X : Cx p R s m args meth c own cc nL nf nl A G rt) {index cN : Nat} {y : MethodName} {b : ByteArray} {n f lo : Nat} {ret : Option FieldType} {r0 : Option Nat} {u : Unit} {As st0 : List Value} {v : Option Nat}
    (hdg : decode cc pc = .ok (.invokevirtual index, 3)) (hC : CLv own index y b n ret) (hy : PY y As.length) (hM : MM l y b n ret f lo G Y S (va_rf r0 :: As) S1 (some (va_rf v))) (hroom : f + 1 ≤ nf ∧ 8 + (n + 11) + lo ≤ nl) (hrc : rcv Y cN r0 = some u) (hcN : (vwCl[cN]?).map (fun q => q.1) = some y.cls) (hP : HP A G Y s S H locs)
    (hst : st0 = As.reverse ++ va_rf r0 :: rest) (hcat : (rest.map fun v => v.category).sum ≤ 8) (hsz : ls.size = nL)
    (kk : ∀ (H1 : Heap) (locs1 : List Loc), HP A G Y s S1 H1 locs1 → W p l e R s m args below meth c H1 locs1 0 0 Q (F0 m (pc + 3) ls (va_rf v :: rest))) : W p l e R s m args below meth c H locs 0 0 Q (F0 m pc ls st0) :=
  rw_callV X hdg hC hy hM hroom hrc hcN hP hst hcat hsz kk
theorem rw_callVv (X : Cx p R s m args meth c own cc nL nf nl A G rt) {index cN : Nat} {y : MethodName} {b : ByteArray} {n f lo : Nat} {ret : Option FieldType} {r0 : Option Nat} {u : Unit} {As st0 : List Value}
    (hdg : decode cc pc = .ok (.invokevirtual index, 3)) (hC : CLv own index y b n ret) (hy : PY y As.length) (hM : MM l y b n ret f lo G Y S (va_rf r0 :: As) S1 none) (hroom : f + 1 ≤ nf ∧ 8 + (n + 11) + lo ≤ nl) (hrc : rcv Y cN r0 = some u) (hcN : (vwCl[cN]?).map (fun q => q.1) = some y.cls) (hP : HP A G Y s S H locs)
    (hst : st0 = As.reverse ++ va_rf r0 :: rest) (hcat : (rest.map fun v => v.category).sum ≤ 8) (hsz : ls.size = nL)
    (kk : ∀ (H1 : Heap) (locs1 : List Loc), HP A G Y s S1 H1 locs1 → W p l e R s m args below meth c H1 locs1 0 0 Q (F0 m (pc + 3) ls rest)) : W p l e R s m args below meth c H locs 0 0 Q (F0 m pc ls st0) :=
  rw_callV X hdg hC hy hM hroom hrc hcN hP hst hcat hsz kk
theorem rw_callSi (X : Cx p R s m args meth c own cc nL nf nl A G rt) {index : Nat} {y : MethodName} {b : ByteArray} {n f lo : Nat} {ret : Option FieldType} {As st0 : List Value} {v : Int32}
    (hdg : decode cc pc = .ok (.invokestatic index, 3)) (hC : CLs own index y b n ret) (hy : PY y As.length) (hM : MM l y b n ret f lo G Y S As S1 (some (.int v))) (hroom : f + 1 ≤ nf ∧ 8 + (n + 11) + lo ≤ nl) (hP : HP A G Y s S H locs)
    (hst : st0 = As.reverse ++ rest) (hcat : (rest.map fun v => v.category).sum ≤ 8) (hsz : ls.size = nL)
    (kk : ∀ (H1 : Heap) (locs1 : List Loc), HP A G Y s S1 H1 locs1 → W p l e R s m args below meth c H1 locs1 0 0 Q (F0 m (pc + 3) ls (.int v :: rest))) : W p l e R s m args below meth c H locs 0 0 Q (F0 m pc ls st0) :=
  rw_callS X hdg hC hy hM hroom hP hst hcat hsz kk
theorem rw_callSv (X : Cx p R s m args meth c own cc nL nf nl A G rt) {index : Nat} {y : MethodName} {b : ByteArray} {n f lo : Nat} {ret : Option FieldType} {As st0 : List Value}
    (hdg : decode cc pc = .ok (.invokestatic index, 3)) (hC : CLs own index y b n ret) (hy : PY y As.length) (hM : MM l y b n ret f lo G Y S As S1 none) (hroom : f + 1 ≤ nf ∧ 8 + (n + 11) + lo ≤ nl) (hP : HP A G Y s S H locs)
    (hst : st0 = As.reverse ++ rest) (hcat : (rest.map fun v => v.category).sum ≤ 8) (hsz : ls.size = nL)
    (kk : ∀ (H1 : Heap) (locs1 : List Loc), HP A G Y s S1 H1 locs1 → W p l e R s m args below meth c H1 locs1 0 0 Q (F0 m (pc + 3) ls rest)) : W p l e R s m args below meth c H locs 0 0 Q (F0 m pc ls st0) :=
  rw_callS X hdg hC hy hM hroom hP hst hcat hsz kk
end RC
end
section
/-! the JDK members on String constants -/
theorem dJ0_isLatin1_aae02_0 : decode cJ0_isLatin1_aae02 0 = .ok (.getstatic 38, 3) := by decide +kernel
theorem dJ0_isLatin1_aae02_3 : decode cJ0_isLatin1_aae02 3 = .ok (.ifCond .eq 14, 3) := by decide +kernel
theorem dJ0_isLatin1_aae02_6 : decode cJ0_isLatin1_aae02 6 = .ok (.aload_n 0, 1) := by decide +kernel
theorem dJ0_isLatin1_aae02_7 : decode cJ0_isLatin1_aae02 7 = .ok (.getfield 15, 3) := by decide +kernel
theorem dJ0_isLatin1_aae02_10 : decode cJ0_isLatin1_aae02 10 = .ok (.ifCond .ne 7, 3) := by decide +kernel
theorem dJ0_isLatin1_aae02_13 : decode cJ0_isLatin1_aae02 13 = .ok (.iconst 1, 1) := by decide +kernel
theorem dJ0_isLatin1_aae02_14 : decode cJ0_isLatin1_aae02 14 = .ok (.goto 4, 3) := by decide +kernel
theorem dJ0_isLatin1_aae02_17 : decode cJ0_isLatin1_aae02 17 = .ok (.iconst 0, 1) := by decide +kernel
theorem dJ0_isLatin1_aae02_18 : decode cJ0_isLatin1_aae02 18 = .ok (.ireturn, 1) := by decide +kernel
theorem pyJ0_isLatin1_aae02 : PY yJ0_isLatin1_aae02 0 := ⟨by decide +kernel, by decide +kernel, by decide +kernel⟩
theorem dJ0_coder_7d493_0 : decode cJ0_coder_7d493 0 = .ok (.getstatic 38, 3) := by decide +kernel
theorem dJ0_coder_7d493_3 : decode cJ0_coder_7d493 3 = .ok (.ifCond .eq 10, 3) := by decide +kernel
theorem dJ0_coder_7d493_6 : decode cJ0_coder_7d493 6 = .ok (.aload_n 0, 1) := by decide +kernel
theorem dJ0_coder_7d493_7 : decode cJ0_coder_7d493 7 = .ok (.getfield 15, 3) := by decide +kernel
theorem dJ0_coder_7d493_10 : decode cJ0_coder_7d493 10 = .ok (.goto 4, 3) := by decide +kernel
theorem dJ0_coder_7d493_13 : decode cJ0_coder_7d493 13 = .ok (.iconst 1, 1) := by decide +kernel
theorem dJ0_coder_7d493_14 : decode cJ0_coder_7d493 14 = .ok (.ireturn, 1) := by decide +kernel
theorem pyJ0_coder_7d493 : PY yJ0_coder_7d493 0 := ⟨by decide +kernel, by decide +kernel, by decide +kernel⟩
theorem dJ0_length_8abf5_0 : decode cJ0_length_8abf5 0 = .ok (.aload_n 0, 1) := by decide +kernel
theorem dJ0_length_8abf5_1 : decode cJ0_length_8abf5 1 = .ok (.getfield 9, 3) := by decide +kernel
theorem dJ0_length_8abf5_4 : decode cJ0_length_8abf5 4 = .ok (.arraylength, 1) := by decide +kernel
theorem dJ0_length_8abf5_5 : decode cJ0_length_8abf5 5 = .ok (.aload_n 0, 1) := by decide +kernel
theorem dJ0_length_8abf5_6 : decode cJ0_length_8abf5 6 = .ok (.invokevirtual 335, 3) := by decide +kernel
theorem dJ0_length_8abf5_9 : decode cJ0_length_8abf5 9 = .ok (.ishr, 1) := by decide +kernel
theorem dJ0_length_8abf5_10 : decode cJ0_length_8abf5 10 = .ok (.ireturn, 1) := by decide +kernel
theorem pyJ0_length_8abf5 : PY yJ0_length_8abf5 0 := ⟨by decide +kernel, by decide +kernel, by decide +kernel⟩
theorem dJ0_charAt_5068e_0 : decode cJ0_charAt_5068e 0 = .ok (.aload_n 0, 1) := by decide +kernel
theorem dJ0_charAt_5068e_1 : decode cJ0_charAt_5068e 1 = .ok (.invokevirtual 492, 3) := by decide +kernel
theorem dJ0_charAt_5068e_4 : decode cJ0_charAt_5068e 4 = .ok (.ifCond .eq 12, 3) := by decide +kernel
theorem dJ0_charAt_5068e_7 : decode cJ0_charAt_5068e 7 = .ok (.aload_n 0, 1) := by decide +kernel
theorem dJ0_charAt_5068e_8 : decode cJ0_charAt_5068e 8 = .ok (.getfield 9, 3) := by decide +kernel
theorem dJ0_charAt_5068e_11 : decode cJ0_charAt_5068e 11 = .ok (.iload_n 1, 1) := by decide +kernel
theorem dJ0_charAt_5068e_12 : decode cJ0_charAt_5068e 12 = .ok (.invokestatic 495, 3) := by decide +kernel
theorem dJ0_charAt_5068e_15 : decode cJ0_charAt_5068e 15 = .ok (.ireturn, 1) := by decide +kernel
theorem dJ0_charAt_5068e_16 : decode cJ0_charAt_5068e 16 = .ok (.aload_n 0, 1) := by decide +kernel
theorem dJ0_charAt_5068e_17 : decode cJ0_charAt_5068e 17 = .ok (.getfield 9, 3) := by decide +kernel
theorem dJ0_charAt_5068e_20 : decode cJ0_charAt_5068e 20 = .ok (.iload_n 1, 1) := by decide +kernel
theorem dJ0_charAt_5068e_21 : decode cJ0_charAt_5068e 21 = .ok (.invokestatic 498, 3) := by decide +kernel
theorem dJ0_charAt_5068e_24 : decode cJ0_charAt_5068e 24 = .ok (.ireturn, 1) := by decide +kernel
theorem pyJ0_charAt_5068e : PY yJ0_charAt_5068e 1 := ⟨by decide +kernel, by decide +kernel, by decide +kernel⟩
theorem dJ0_checkIndex_df160_0 : decode cJ0_checkIndex_df160 0 = .ok (.iload_n 0, 1) := by decide +kernel
theorem dJ0_checkIndex_df160_1 : decode cJ0_checkIndex_df160 1 = .ok (.iload_n 1, 1) := by decide +kernel
theorem dJ0_checkIndex_df160_2 : decode cJ0_checkIndex_df160 2 = .ok (.getstatic 1053, 3) := by decide +kernel
theorem dJ0_checkIndex_df160_5 : decode cJ0_checkIndex_df160 5 = .ok (.invokestatic 1059, 3) := by decide +kernel
theorem dJ0_checkIndex_df160_8 : decode cJ0_checkIndex_df160 8 = .ok (.pop, 1) := by decide +kernel
theorem dJ0_checkIndex_df160_9 : decode cJ0_checkIndex_df160 9 = .ok (.return_, 1) := by decide +kernel
theorem pyJ0_checkIndex_df160 : PY yJ0_checkIndex_df160 2 := ⟨by decide +kernel, by decide +kernel, by decide +kernel⟩
theorem dJ3_checkIndex_8e157_0 : decode cJ3_checkIndex_8e157 0 = .ok (.iload_n 0, 1) := by decide +kernel
theorem dJ3_checkIndex_8e157_1 : decode cJ3_checkIndex_8e157 1 = .ok (.ifCond .lt 8, 3) := by decide +kernel
theorem dJ3_checkIndex_8e157_4 : decode cJ3_checkIndex_8e157 4 = .ok (.iload_n 0, 1) := by decide +kernel
theorem dJ3_checkIndex_8e157_5 : decode cJ3_checkIndex_8e157 5 = .ok (.iload_n 1, 1) := by decide +kernel
theorem dJ3_checkIndex_8e157_6 : decode cJ3_checkIndex_8e157 6 = .ok (.if_icmp .lt 10, 3) := by decide +kernel
theorem dJ3_checkIndex_8e157_9 : decode cJ3_checkIndex_8e157 9 = .ok (.aload_n 2, 1) := by decide +kernel
theorem dJ3_checkIndex_8e157_10 : decode cJ3_checkIndex_8e157 10 = .ok (.iload_n 0, 1) := by decide +kernel
theorem dJ3_checkIndex_8e157_11 : decode cJ3_checkIndex_8e157 11 = .ok (.iload_n 1, 1) := by decide +kernel
theorem dJ3_checkIndex_8e157_12 : decode cJ3_checkIndex_8e157 12 = .ok (.invokestatic 95, 3) := by decide +kernel
theorem dJ3_checkIndex_8e157_15 : decode cJ3_checkIndex_8e157 15 = .ok (.athrow, 1) := by decide +kernel
theorem dJ3_checkIndex_8e157_16 : decode cJ3_checkIndex_8e157 16 = .ok (.iload_n 0, 1) := by decide +kernel
theorem dJ3_checkIndex_8e157_17 : decode cJ3_checkIndex_8e157 17 = .ok (.ireturn, 1) := by decide +kernel
theorem pyJ3_checkIndex_8e157 : PY yJ3_checkIndex_8e157 3 := ⟨by decide +kernel, by decide +kernel, by decide +kernel⟩
theorem dJ1_charAt_3b067_0 : decode cJ1_charAt_3b067 0 = .ok (.iload_n 1, 1) := by decide +kernel
theorem dJ1_charAt_3b067_1 : decode cJ1_charAt_3b067 1 = .ok (.aload_n 0, 1) := by decide +kernel
theorem dJ1_charAt_3b067_2 : decode cJ1_charAt_3b067 2 = .ok (.arraylength, 1) := by decide +kernel
theorem dJ1_charAt_3b067_3 : decode cJ1_charAt_3b067 3 = .ok (.invokestatic 9, 3) := by decide +kernel
theorem dJ1_charAt_3b067_6 : decode cJ1_charAt_3b067 6 = .ok (.aload_n 0, 1) := by decide +kernel
theorem dJ1_charAt_3b067_7 : decode cJ1_charAt_3b067 7 = .ok (.iload_n 1, 1) := by decide +kernel
theorem dJ1_charAt_3b067_8 : decode cJ1_charAt_3b067 8 = .ok (.baload, 1) := by decide +kernel
theorem dJ1_charAt_3b067_9 : decode cJ1_charAt_3b067 9 = .ok (.sipush 255, 3) := by decide +kernel
theorem dJ1_charAt_3b067_12 : decode cJ1_charAt_3b067 12 = .ok (.iand, 1) := by decide +kernel
theorem dJ1_charAt_3b067_13 : decode cJ1_charAt_3b067 13 = .ok (.i2c, 1) := by decide +kernel
theorem dJ1_charAt_3b067_14 : decode cJ1_charAt_3b067 14 = .ok (.ireturn, 1) := by decide +kernel
theorem pyJ1_charAt_3b067 : PY yJ1_charAt_3b067 2 := ⟨by decide +kernel, by decide +kernel, by decide +kernel⟩
theorem dJ1_canEncode_9a6ad_0 : decode cJ1_canEncode_9a6ad 0 = .ok (.iload_n 0, 1) := by decide +kernel
theorem dJ1_canEncode_9a6ad_1 : decode cJ1_canEncode_9a6ad 1 = .ok (.ifCond .lt 14, 3) := by decide +kernel
theorem dJ1_canEncode_9a6ad_4 : decode cJ1_canEncode_9a6ad 4 = .ok (.iload_n 0, 1) := by decide +kernel
theorem dJ1_canEncode_9a6ad_5 : decode cJ1_canEncode_9a6ad 5 = .ok (.sipush 255, 3) := by decide +kernel
theorem dJ1_canEncode_9a6ad_8 : decode cJ1_canEncode_9a6ad 8 = .ok (.if_icmp .gt 7, 3) := by decide +kernel
theorem dJ1_canEncode_9a6ad_11 : decode cJ1_canEncode_9a6ad 11 = .ok (.iconst 1, 1) := by decide +kernel
theorem dJ1_canEncode_9a6ad_12 : decode cJ1_canEncode_9a6ad 12 = .ok (.goto 4, 3) := by decide +kernel
theorem dJ1_canEncode_9a6ad_15 : decode cJ1_canEncode_9a6ad 15 = .ok (.iconst 0, 1) := by decide +kernel
theorem dJ1_canEncode_9a6ad_16 : decode cJ1_canEncode_9a6ad 16 = .ok (.ireturn, 1) := by decide +kernel
theorem pyJ1_canEncode_9a6ad : PY yJ1_canEncode_9a6ad 1 := ⟨by decide +kernel, by decide +kernel, by decide +kernel⟩
theorem dJ1_indexOfChar_4cfef_0 : decode cJ1_indexOfChar_4cfef 0 = .ok (.iload_n 1, 1) := by decide +kernel
theorem dJ1_indexOfChar_4cfef_1 : decode cJ1_indexOfChar_4cfef 1 = .ok (.i2b, 1) := by decide +kernel
theorem dJ1_indexOfChar_4cfef_2 : decode cJ1_indexOfChar_4cfef 2 = .ok (.istore 4, 2) := by decide +kernel
theorem dJ1_indexOfChar_4cfef_4 : decode cJ1_indexOfChar_4cfef 4 = .ok (.iload_n 2, 1) := by decide +kernel
theorem dJ1_indexOfChar_4cfef_5 : decode cJ1_indexOfChar_4cfef 5 = .ok (.istore 5, 2) := by decide +kernel
theorem dJ1_indexOfChar_4cfef_7 : decode cJ1_indexOfChar_4cfef 7 = .ok (.iload 5, 2) := by decide +kernel
theorem dJ1_indexOfChar_4cfef_9 : decode cJ1_indexOfChar_4cfef 9 = .ok (.iload_n 3, 1) := by decide +kernel
theorem dJ1_indexOfChar_4cfef_10 : decode cJ1_indexOfChar_4cfef 10 = .ok (.if_icmp .ge 21, 3) := by decide +kernel
theorem dJ1_indexOfChar_4cfef_13 : decode cJ1_indexOfChar_4cfef 13 = .ok (.aload_n 0, 1) := by decide +kernel
theorem dJ1_indexOfChar_4cfef_14 : decode cJ1_indexOfChar_4cfef 14 = .ok (.iload 5, 2) := by decide +kernel
theorem dJ1_indexOfChar_4cfef_16 : decode cJ1_indexOfChar_4cfef 16 = .ok (.baload, 1) := by decide +kernel
theorem dJ1_indexOfChar_4cfef_17 : decode cJ1_indexOfChar_4cfef 17 = .ok (.iload 4, 2) := by decide +kernel
theorem dJ1_indexOfChar_4cfef_19 : decode cJ1_indexOfChar_4cfef 19 = .ok (.if_icmp .ne 6, 3) := by decide +kernel
theorem dJ1_indexOfChar_4cfef_22 : decode cJ1_indexOfChar_4cfef 22 = .ok (.iload 5, 2) := by decide +kernel
theorem dJ1_indexOfChar_4cfef_24 : decode cJ1_indexOfChar_4cfef 24 = .ok (.ireturn, 1) := by decide +kernel
theorem dJ1_indexOfChar_4cfef_25 : decode cJ1_indexOfChar_4cfef 25 = .ok (.iinc 5 1, 3) := by decide +kernel
theorem dJ1_indexOfChar_4cfef_28 : decode cJ1_indexOfChar_4cfef 28 = .ok (.goto (-21), 3) := by decide +kernel
theorem dJ1_indexOfChar_4cfef_31 : decode cJ1_indexOfChar_4cfef 31 = .ok (.iconst (-1), 1) := by decide +kernel
theorem dJ1_indexOfChar_4cfef_32 : decode cJ1_indexOfChar_4cfef 32 = .ok (.ireturn, 1) := by decide +kernel
theorem pyJ1_indexOfChar_4cfef : PY yJ1_indexOfChar_4cfef 4 := ⟨by decide +kernel, by decide +kernel, by decide +kernel⟩
theorem dJ1_indexOf_4cfef_0 : decode cJ1_indexOf_4cfef 0 = .ok (.iload_n 1, 1) := by decide +kernel
theorem dJ1_indexOf_4cfef_1 : decode cJ1_indexOf_4cfef 1 = .ok (.invokestatic 88, 3) := by decide +kernel
theorem dJ1_indexOf_4cfef_4 : decode cJ1_indexOf_4cfef 4 = .ok (.ifCond .ne 5, 3) := by decide +kernel
theorem dJ1_indexOf_4cfef_7 : decode cJ1_indexOf_4cfef 7 = .ok (.iconst (-1), 1) := by decide +kernel
theorem dJ1_indexOf_4cfef_8 : decode cJ1_indexOf_4cfef 8 = .ok (.ireturn, 1) := by decide +kernel
theorem dJ1_indexOf_4cfef_9 : decode cJ1_indexOf_4cfef 9 = .ok (.iload_n 2, 1) := by decide +kernel
theorem dJ1_indexOf_4cfef_10 : decode cJ1_indexOf_4cfef 10 = .ok (.iconst 0, 1) := by decide +kernel
theorem dJ1_indexOf_4cfef_11 : decode cJ1_indexOf_4cfef 11 = .ok (.invokestatic 92, 3) := by decide +kernel
theorem dJ1_indexOf_4cfef_14 : decode cJ1_indexOf_4cfef 14 = .ok (.istore_n 2, 1) := by decide +kernel
theorem dJ1_indexOf_4cfef_15 : decode cJ1_indexOf_4cfef 15 = .ok (.iload_n 3, 1) := by decide +kernel
theorem dJ1_indexOf_4cfef_16 : decode cJ1_indexOf_4cfef 16 = .ok (.aload_n 0, 1) := by decide +kernel
theorem dJ1_indexOf_4cfef_17 : decode cJ1_indexOf_4cfef 17 = .ok (.arraylength, 1) := by decide +kernel
theorem dJ1_indexOf_4cfef_18 : decode cJ1_indexOf_4cfef 18 = .ok (.invokestatic 38, 3) := by decide +kernel
theorem dJ1_indexOf_4cfef_21 : decode cJ1_indexOf_4cfef 21 = .ok (.istore_n 3, 1) := by decide +kernel
theorem dJ1_indexOf_4cfef_22 : decode cJ1_indexOf_4cfef 22 = .ok (.iload_n 2, 1) := by decide +kernel
theorem dJ1_indexOf_4cfef_23 : decode cJ1_indexOf_4cfef 23 = .ok (.iload_n 3, 1) := by decide +kernel
theorem dJ1_indexOf_4cfef_24 : decode cJ1_indexOf_4cfef 24 = .ok (.if_icmp .lt 5, 3) := by decide +kernel
theorem dJ1_indexOf_4cfef_27 : decode cJ1_indexOf_4cfef 27 = .ok (.iconst (-1), 1) := by decide +kernel
theorem dJ1_indexOf_4cfef_28 : decode cJ1_indexOf_4cfef 28 = .ok (.ireturn, 1) := by decide +kernel
theorem dJ1_indexOf_4cfef_29 : decode cJ1_indexOf_4cfef 29 = .ok (.aload_n 0, 1) := by decide +kernel
theorem dJ1_indexOf_4cfef_30 : decode cJ1_indexOf_4cfef 30 = .ok (.iload_n 1, 1) := by decide +kernel
theorem dJ1_indexOf_4cfef_31 : decode cJ1_indexOf_4cfef 31 = .ok (.iload_n 2, 1) := by decide +kernel
theorem dJ1_indexOf_4cfef_32 : decode cJ1_indexOf_4cfef 32 = .ok (.iload_n 3, 1) := by decide +kernel
theorem dJ1_indexOf_4cfef_33 : decode cJ1_indexOf_4cfef 33 = .ok (.invokestatic 95, 3) := by decide +kernel
theorem dJ1_indexOf_4cfef_36 : decode cJ1_indexOf_4cfef 36 = .ok (.ireturn, 1) := by decide +kernel
theorem pyJ1_indexOf_4cfef : PY yJ1_indexOf_4cfef 4 := ⟨by decide +kernel, by decide +kernel, by decide +kernel⟩
theorem dJ0_indexOf_7cf53_0 : decode cJ0_indexOf_7cf53 0 = .ok (.aload_n 0, 1) := by decide +kernel
theorem dJ0_indexOf_7cf53_1 : decode cJ0_indexOf_7cf53 1 = .ok (.invokevirtual 492, 3) := by decide +kernel
theorem dJ0_indexOf_7cf53_4 : decode cJ0_indexOf_7cf53 4 = .ok (.ifCond .eq 19, 3) := by decide +kernel
theorem dJ0_indexOf_7cf53_7 : decode cJ0_indexOf_7cf53 7 = .ok (.aload_n 0, 1) := by decide +kernel
theorem dJ0_indexOf_7cf53_8 : decode cJ0_indexOf_7cf53 8 = .ok (.getfield 9, 3) := by decide +kernel
theorem dJ0_indexOf_7cf53_11 : decode cJ0_indexOf_7cf53 11 = .ok (.iload_n 1, 1) := by decide +kernel
theorem dJ0_indexOf_7cf53_12 : decode cJ0_indexOf_7cf53 12 = .ok (.iload_n 2, 1) := by decide +kernel
theorem dJ0_indexOf_7cf53_13 : decode cJ0_indexOf_7cf53 13 = .ok (.aload_n 0, 1) := by decide +kernel
theorem dJ0_indexOf_7cf53_14 : decode cJ0_indexOf_7cf53 14 = .ok (.invokevirtual 505, 3) := by decide +kernel
theorem dJ0_indexOf_7cf53_17 : decode cJ0_indexOf_7cf53 17 = .ok (.invokestatic 637, 3) := by decide +kernel
theorem dJ0_indexOf_7cf53_20 : decode cJ0_indexOf_7cf53 20 = .ok (.goto 16, 3) := by decide +kernel
theorem dJ0_indexOf_7cf53_23 : decode cJ0_indexOf_7cf53 23 = .ok (.aload_n 0, 1) := by decide +kernel
theorem dJ0_indexOf_7cf53_24 : decode cJ0_indexOf_7cf53 24 = .ok (.getfield 9, 3) := by decide +kernel
theorem dJ0_indexOf_7cf53_27 : decode cJ0_indexOf_7cf53 27 = .ok (.iload_n 1, 1) := by decide +kernel
theorem dJ0_indexOf_7cf53_28 : decode cJ0_indexOf_7cf53 28 = .ok (.iload_n 2, 1) := by decide +kernel
theorem dJ0_indexOf_7cf53_29 : decode cJ0_indexOf_7cf53 29 = .ok (.aload_n 0, 1) := by decide +kernel
theorem dJ0_indexOf_7cf53_30 : decode cJ0_indexOf_7cf53 30 = .ok (.invokevirtual 505, 3) := by decide +kernel
theorem dJ0_indexOf_7cf53_33 : decode cJ0_indexOf_7cf53 33 = .ok (.invokestatic 640, 3) := by decide +kernel
theorem dJ0_indexOf_7cf53_36 : decode cJ0_indexOf_7cf53 36 = .ok (.ireturn, 1) := by decide +kernel
theorem pyJ0_indexOf_7cf53 : PY yJ0_indexOf_7cf53 2 := ⟨by decide +kernel, by decide +kernel, by decide +kernel⟩
theorem dJ0_indexOf_0f7a4_0 : decode cJ0_indexOf_0f7a4 0 = .ok (.aload_n 0, 1) := by decide +kernel
theorem dJ0_indexOf_0f7a4_1 : decode cJ0_indexOf_0f7a4 1 = .ok (.iload_n 1, 1) := by decide +kernel
theorem dJ0_indexOf_0f7a4_2 : decode cJ0_indexOf_0f7a4 2 = .ok (.iconst 0, 1) := by decide +kernel
theorem dJ0_indexOf_0f7a4_3 : decode cJ0_indexOf_0f7a4 3 = .ok (.invokevirtual 633, 3) := by decide +kernel
theorem dJ0_indexOf_0f7a4_6 : decode cJ0_indexOf_0f7a4 6 = .ok (.ireturn, 1) := by decide +kernel
theorem pyJ0_indexOf_0f7a4 : PY yJ0_indexOf_0f7a4 1 := ⟨by decide +kernel, by decide +kernel, by decide +kernel⟩
theorem tbJ38 : Cond.fieldLink RJ0 38 "java/lang/String" "COMPACT_STRINGS" "Z" ∈ TBL := tb_of (tb2 188 rfl) rfl
theorem tbJ15 : Cond.fieldLink RJ0 15 "java/lang/String" "coder" "B" ∈ TBL := tb_of (tb5 228 rfl) rfl
theorem tbJ9 : Cond.fieldLink RJ0 9 "java/lang/String" "value" "[B" ∈ TBL := tb_of (tb5 229 rfl) rfl
theorem tbJ1053 : Cond.fieldLink RJ0 1053 "jdk/internal/util/Preconditions" "SIOOBE_FORMATTER" "Ljava/util/function/BiFunction;" ∈ TBL := tb_of (tb2 231 rfl) rfl
theorem mlJ1_92 : Cond.methodLink RJ1 92 Lib.Math.max.name ∈ TBL := tb_of (tb2 204 rfl) rfl
theorem mlJ1_38 : Cond.methodLink RJ1 38 Lib.Math.min.name ∈ TBL := tb_of (tb2 207 rfl) rfl
section RS
variable {p : Program} {l : Launch} {e : Env} {R : Room} {s : State} {m : MethodId} {args : Array Value} {below : List Frame} {meth : Method} {c : Code} {H : Heap} {locs : List Loc} {Q : State → Prop}
variable {own : String} {cc : ByteArray} {nL nf nl : Nat} {A : Nat → Prop} {G : GG} {rt : Option FieldType} {Y : LY} {S S1 : HS} {pc : Nat} {ls : Array Slot} {rest : List Value}
theorem rw_callK (X : Cx p R s m args meth c own cc nL nf nl A G rt) {index i : Nat} {y : MethodName} {b : ByteArray} {n f lo : Nat} {ret : Option FieldType} {As st0 : List Value} {rv : Option Value} (hi : i < 3)
    (hdg : decode cc pc = .ok (.invokevirtual index, 3)) (hC : CLv own index y b n ret) (hy : PY y As.length) (hM : MM l y b n ret f lo G Y S (.ref (G.2.2.1 i) :: As) S1 rv) (hroom : f + 1 ≤ nf ∧ 8 + (n + 11) + lo ≤ nl) (hcl : y.cls = "java/lang/String") (hP : HP A G Y s S H locs)
    (hst : st0 = As.reverse ++ .ref (G.2.2.1 i) :: rest) (hcat : (rest.map fun v => v.category).sum ≤ 8) (hsz : ls.size = nL)
    (kk : ∀ (H1 : Heap) (locs1 : List Loc), HP A G Y s S1 H1 locs1 → W p l e R s m args below meth c H1 locs1 0 0 Q (F0 m (pc + 3) ls (rv.toList ++ rest))) : W p l e R s m args below meth c H locs 0 0 Q (F0 m pc ls st0) := by
  have hX := X
  obtain ⟨hfix, hKK, hST, hlocks, hrt, hnf, hnl, hz1, hz2⟩ := X
  obtain ⟨c1, c2, c3, c4, c5⟩ := hC
  have hrecv := vk_recv hST.1 hi hP.2.2
  rw [← hcl] at hrecv
  have hG : GoodIn TBL (wsV own index y.cls y (.code y b n ret :: TBL)) := by
    intro w hw
    have hm : w ∈ TBL := by
      simp only [wsV, List.cons_append, List.nil_append, List.mem_cons] at hw
      rcases hw with rfl | rfl | rfl | rfl | rfl | hw
      · exact c1
      · exact c4
      · exact c5
      · exact c3
      · exact c2
      · exact hw
    exact tbl_good w hm
  refine rw_after (va_runV (As := As) (rest := rest) hfix hM (cwV As.length hfix.2.2.2.2 hG rfl rfl rfl ⟨rfl, hy.1, hy.2.1, hy.2.2⟩ ⟨Nat.le_trans hroom.1 hnf, Nat.le_trans hroom.2 hnl⟩) ⟨preW_blind, hrecv, fun U hU hW => preW_of hX hP U hU hW⟩ rfl rfl hsz hst (lv_room hcat) hdg ⟨hz1, hz2⟩) hP kk
theorem rw_xret (X : Cx p R s m args meth c own cc nL nf nl (fun q => q ∈ Y.1) G rt) {v : Int32} {ty : FieldType} (ht : rt = some ty) (hn : narrow ty (.int v) = .int v) (hdg : decode cc pc = .ok (.ireturn, 1)) (hP : HP (fun q => q ∈ Y.1) G Y s S H locs) : W p l e R s m args below meth c H locs 0 0 (MQ below (QI G Y S (some (.int v))) args s 0 0 (fun q => q ∈ Y.1)) (F0 m pc ls [.int v]) := by
  obtain ⟨⟨hx, hb, -⟩, -, -, hlocks, hr, -⟩ := X
  subst ht
  exact W.zret hx hb hr hn (fun t ht hW => ⟨rfl, by rw [ht]; exact hP.1, hP.2.2.F ht⟩) hP.2.2.2.2 hdg
theorem rs_tlen (X : Cx p R s m args meth c own cc nL nf nl A G rt) {i : Nat} (hi : i < 3) (hdg : decode cc pc = .ok (.arraylength, 1)) (hP : HP A G Y s S H locs)
    (kk : W p l e R s m args below meth c H locs 0 0 Q (F0 m (pc + 1) ls (.int (sLen i) :: rest))) : W p l e R s m args below meth c H locs 0 0 Q (F0 m pc ls (.ref (G.2.2.2 i) :: rest)) := by
  obtain ⟨⟨hx, hb, -⟩, -, hST, -⟩ := X
  obtain ⟨cell, h1, h2, h3, h4, h5, h6, h7⟩ := (hST.1.1 i hi).2.2.2
  exact W.alen (n := sLen i) hx hb (by rw [hP.2.2.2.1 _ (Array.getElem?_eq_some_iff.mp h1).1 h7]; exact h1) h2 h5 rfl rfl hdg kk
end RS
set_option maxRecDepth 100000 in
set_option maxHeartbeats 4000000 in
theorem mJ_isLatin1 (l : Launch) {G : GG} {Y : LY} {S : HS} {i : Nat} (hi : i < 3) : MM l yJ0_isLatin1_aae02 cJ0_isLatin1_aae02 1 (some .boolean) 0 0 G Y S [.ref (G.2.2.1 i)] S (some (.int 1)) := by
  refine mm_of2 (by decide +kernel) (Nat.le_of_ble_eq_true rfl) (c1c (ca _) c1n) ?_
  intro p e R s m args below meth c X H locs ls hP hl
  have X : Cx p R s m args meth c RJ0 cJ0_isLatin1_aae02 1 0 0 (fun q => q ∈ Y.1) G (some .boolean) := X
  have hx := X.1.1
  have hb := X.1.2.1
  have hl : LV ls 1 [(0, .ref (G.2.2.1 i))] := hl
  refine va_gets hx hb X.2.2.1.2.1 hP.2.2 X.1.2.2.2.1 (X.1.2.2.2.2 _ tbJ38) (fun _ h => h) dJ0_isLatin1_aae02_0 ?_
  refine lv_if_eq (tgt := 17) hx hb dJ0_isLatin1_aae02_3 (by decide) (fun c => absurd c (by decide)) (fun _ => ?_)
  refine lv_aload_n hx hb dJ0_isLatin1_aae02_6 rfl (hl.at 0 rfl) ?_
  refine vk_getf hx hb (X.2.2.1.1.1 i hi).2.1 hP.2.2 X.1.2.2.2.1 (X.1.2.2.2.2 _ tbJ15) (fun _ h => h) dJ0_isLatin1_aae02_7 ?_
  refine lv_if_ne (tgt := 17) hx hb dJ0_isLatin1_aae02_10 (by decide) (fun c => absurd rfl c) (fun _ => ?_)
  refine lv_iconst (v := 1) hx hb dJ0_isLatin1_aae02_13 (by decide) ?_
  refine lv_goto (tgt := 18) hx hb dJ0_isLatin1_aae02_14 (by decide) ?_
  exact rw_zret X (Or.inr rfl) dJ0_isLatin1_aae02_18 hP
set_option maxRecDepth 100000 in
set_option maxHeartbeats 4000000 in
theorem mJ_coder (l : Launch) {G : GG} {Y : LY} {S : HS} {i : Nat} (hi : i < 3) : MM l yJ0_coder_7d493 cJ0_coder_7d493 1 (some .byte) 0 0 G Y S [.ref (G.2.2.1 i)] S (some (.int 0)) := by
  refine mm_of2 (by decide +kernel) (Nat.le_of_ble_eq_true rfl) (c1c (ca _) c1n) ?_
  intro p e R s m args below meth c X H locs ls hP hl
  have X : Cx p R s m args meth c RJ0 cJ0_coder_7d493 1 0 0 (fun q => q ∈ Y.1) G (some .byte) := X
  have hx := X.1.1
  have hb := X.1.2.1
  have hl : LV ls 1 [(0, .ref (G.2.2.1 i))] := hl
  refine va_gets hx hb X.2.2.1.2.1 hP.2.2 X.1.2.2.2.1 (X.1.2.2.2.2 _ tbJ38) (fun _ h => h) dJ0_coder_7d493_0 ?_
  refine lv_if_eq (tgt := 13) hx hb dJ0_coder_7d493_3 (by decide) (fun c => absurd c (by decide)) (fun _ => ?_)
  refine lv_aload_n hx hb dJ0_coder_7d493_6 rfl (hl.at 0 rfl) ?_
  refine vk_getf hx hb (X.2.2.1.1.1 i hi).2.1 hP.2.2 X.1.2.2.2.1 (X.1.2.2.2.2 _ tbJ15) (fun _ h => h) dJ0_coder_7d493_7 ?_
  refine lv_goto (tgt := 14) hx hb dJ0_coder_7d493_10 (by decide) ?_
  exact rw_xret X rfl (by decide +kernel) dJ0_coder_7d493_14 hP
set_option maxRecDepth 100000 in
set_option maxHeartbeats 4000000 in
theorem mJ_length (l : Launch) {G : GG} {Y : LY} {S : HS} {i : Nat} (hi : i < 3) : MM l yJ0_length_8abf5 cJ0_length_8abf5 1 (some .int) 1 20 G Y S [.ref (G.2.2.1 i)] S (some (.int (sLen i))) := by
  refine mm_of2 (by decide +kernel) (Nat.le_of_ble_eq_true rfl) (c1c (ca _) c1n) ?_
  intro p e R s m args below meth c X H locs ls hP hl
  have X : Cx p R s m args meth c RJ0 cJ0_length_8abf5 1 1 20 (fun q => q ∈ Y.1) G (some .int) := X
  have hx := X.1.1
  have hb := X.1.2.1
  have hl : LV ls 1 [(0, .ref (G.2.2.1 i))] := hl
  refine lv_aload_n hx hb dJ0_length_8abf5_0 rfl (hl.at 0 rfl) ?_
  refine vk_getf hx hb (X.2.2.1.1.1 i hi).2.2.1 hP.2.2 X.1.2.2.2.1 (X.1.2.2.2.2 _ tbJ9) (fun _ h => h) dJ0_length_8abf5_1 ?_
  refine rs_tlen X hi dJ0_length_8abf5_4 hP ?_
  refine lv_aload_n hx hb dJ0_length_8abf5_5 rfl (hl.at 0 rfl) ?_
  refine rw_callK (As := []) X hi dJ0_length_8abf5_6 clJ0_335 pyJ0_coder_7d493 (mJ_coder l hi) (by decide) rfl hP rfl (catL (c1c (ci _) c1n) (Nat.le_of_ble_eq_true rfl)) hl.1.1 (fun H locs hP => ?_)
  refine W.eq (g2 := F0 m 9 ls [.int 0, .int (sLen i)]) rfl ?_
  refine lv_ishr hx hb dJ0_length_8abf5_9 ?_
  rw [sb_shr0]
  exact rw_iret X dJ0_length_8abf5_10 hP
set_option maxRecDepth 100000 in
set_option maxHeartbeats 4000000 in
theorem mJ_canEncode (l : Launch) {G : GG} {Y : LY} {S : HS} {k : Int32} : MM l yJ1_canEncode_9a6ad cJ1_canEncode_9a6ad 1 (some .boolean) 0 0 G Y S [.int k] S (some (.int (if k < 0 then 0 else if 255 < k then 0 else 1))) := by
  refine mm_of2 (by decide +kernel) (Nat.le_of_ble_eq_true rfl) (c1c (ci _) c1n) ?_
  intro p e R s m args below meth c X H locs ls hP hl
  have X : Cx p R s m args meth c RJ1 cJ1_canEncode_9a6ad 1 0 0 (fun q => q ∈ Y.1) G (some .boolean) := X
  have hx := X.1.1
  have hb := X.1.2.1
  have hl : LV ls 1 [(0, .int k)] := hl
  refine lv_iload_n hx hb dJ1_canEncode_9a6ad_0 rfl (hl.at 0 rfl) ?_
  refine lv_if_lt (tgt := 15) hx hb dJ1_canEncode_9a6ad_1 (by decide) (fun c1 => ?_) (fun c1 => ?_)
  · rw [if_pos c1]
    refine lv_iconst (v := 0) hx hb dJ1_canEncode_9a6ad_15 (by decide) ?_
    exact rw_zret X (Or.inl rfl) dJ1_canEncode_9a6ad_16 hP
  · rw [if_neg c1]
    refine lv_iload_n hx hb dJ1_canEncode_9a6ad_4 rfl (hl.at 0 rfl) ?_
    refine lv_sipush (v := 255) hx hb dJ1_canEncode_9a6ad_5 (by decide) ?_
    refine lv_icmp_gt (tgt := 15) hx hb dJ1_canEncode_9a6ad_8 (by decide) (fun c2 => ?_) (fun c2 => ?_)
    · rw [if_pos c2]
      refine lv_iconst (v := 0) hx hb dJ1_canEncode_9a6ad_15 (by decide) ?_
      exact rw_zret X (Or.inl rfl) dJ1_canEncode_9a6ad_16 hP
    · rw [if_neg c2]
      refine lv_iconst (v := 1) hx hb dJ1_canEncode_9a6ad_11 (by decide) ?_
      refine lv_goto (tgt := 16) hx hb dJ1_canEncode_9a6ad_12 (by decide) ?_
      exact rw_zret X (Or.inr rfl) dJ1_canEncode_9a6ad_16 hP
set_option maxRecDepth 100000 in
set_option maxHeartbeats 4000000 in
theorem mJ_pcheck (l : Launch) {G : GG} {Y : LY} {S : HS} {k n : Int32} {v : Value} (hv : v.category = 1) (h0 : ¬ k < 0) (h1 : k < n) : MM l yJ3_checkIndex_8e157 cJ3_checkIndex_8e157 3 (some .int) 0 0 G Y S [.int k, .int n, v] S (some (.int k)) := by
  refine mm_of2 (by decide +kernel) (Nat.le_of_ble_eq_true rfl) (c1c (ci _) (c1c (ci _) (c1c hv c1n))) ?_
  intro p e R s m args below meth c X H locs ls hP hl
  have X : Cx p R s m args meth c RJ3 cJ3_checkIndex_8e157 3 0 0 (fun q => q ∈ Y.1) G (some .int) := X
  have hx := X.1.1
  have hb := X.1.2.1
  have hl : LV ls 3 [(0, .int k), (1, .int n), (2, v)] := hl
  refine lv_iload_n hx hb dJ3_checkIndex_8e157_0 rfl (hl.at 0 rfl) ?_
  refine lv_if_lt (tgt := 9) hx hb dJ3_checkIndex_8e157_1 (by decide) (fun c1 => absurd c1 h0) (fun c1 => ?_)
  refine lv_iload_n hx hb dJ3_checkIndex_8e157_4 rfl (hl.at 0 rfl) ?_
  refine lv_iload_n hx hb dJ3_checkIndex_8e157_5 rfl (hl.at 1 rfl) ?_
  refine lv_icmp_lt (tgt := 16) hx hb dJ3_checkIndex_8e157_6 (by decide) (fun c2 => ?_) (fun c2 => absurd h1 c2)
  refine lv_iload_n hx hb dJ3_checkIndex_8e157_16 rfl (hl.at 0 rfl) ?_
  exact rw_iret X dJ3_checkIndex_8e157_17 hP
set_option maxRecDepth 100000 in
set_option maxHeartbeats 4000000 in
theorem mJ_check (l : Launch) {G : GG} {Y : LY} {S : HS} {k n : Int32} (h0 : ¬ k < 0) (h1 : k < n) : MM l yJ0_checkIndex_df160 cJ0_checkIndex_df160 2 none 1 22 G Y S [.int k, .int n] S none := by
  refine mm_of2 (by decide +kernel) (Nat.le_of_ble_eq_true rfl) (c1c (ci _) (c1c (ci _) c1n)) ?_
  intro p e R s m args below meth c X H locs ls hP hl
  have X : Cx p R s m args meth c RJ0 cJ0_checkIndex_df160 2 1 22 (fun q => q ∈ Y.1) G none := X
  have hx := X.1.1
  have hb := X.1.2.1
  have hl : LV ls 2 [(0, .int k), (1, .int n)] := hl
  refine lv_iload_n hx hb dJ0_checkIndex_df160_0 rfl (hl.at 0 rfl) ?_
  refine lv_iload_n hx hb dJ0_checkIndex_df160_1 rfl (hl.at 1 rfl) ?_
  obtain ⟨v, hv, hZ⟩ : ∃ v : Value, v.category = 1 ∧ va_Z "jdk/internal/util/Preconditions" "SIOOBE_FORMATTER" "Ljava/util/function/BiFunction;" v (fun q => q ∈ Y.1) s s.heap := by
    rcases X.2.2.1.2.2.2.2.2.2 with h | ⟨t, h⟩
    · exact ⟨_, rfl, h⟩
    · exact ⟨_, rfl, h⟩
  refine va_gets hx hb hZ hP.2.2 X.1.2.2.2.1 (X.1.2.2.2.2 _ tbJ1053) (fun _ h => h) dJ0_checkIndex_df160_2 ?_
  refine rw_callSi (As := [.int k, .int n, v]) X dJ0_checkIndex_df160_5 clJ0_1059 pyJ3_checkIndex_8e157 (mJ_pcheck l hv h0 h1) (by decide) hP rfl (catL c1n (Nat.le_of_ble_eq_true rfl)) hl.1.1 (fun H locs hP => ?_)
  refine lv_pop hx hb dJ0_checkIndex_df160_8 rfl ?_
  exact rw_vret X dJ0_checkIndex_df160_9 hP
end
section
/-! charAt, indexOf on the String constants, and their rows -/
theorem js_b : ∀ i, i < 3 → ∀ j, j < lenJS.getD i 0 → ((((bytJS.getD i []).getD j 0) &&& 255).toUInt32 % 65536).toInt32 = (bytJS.getD i []).getD j 0 := by decide +kernel
theorem js_l : ∀ i, i < 3 → (bytJS.getD i []).length = lenJS.getD i 0 ∧ lenJS.getD i 0 < 100 := by decide +kernel
theorem js_c : ∀ n, n < 256 → ∀ i, i < 3 → ∀ b ∈ bytJS.getD i [], (b = (nI n).toInt8.toInt32 ↔ b = nI n) := by decide +kernel
theorem js_out : ∀ i, i < 3 → ∀ b ∈ bytJS.getD i [], ¬ b < 0 ∧ ¬ 255 < b := by decide +kernel
theorem inr_of {k : Int32} {n : Nat} (h : inr k n = true) (hn : n < 2 ^ 31) : ¬ k < 0 ∧ k < nI n ∧ ∃ j, j < n ∧ k = nI j := by
  obtain ⟨j, hj, rfl⟩ := vp_in_of (inr_in h) hn
  exact ⟨nI_pos (by omega), nI_lt hj (by omega), j, hj, rfl⟩
theorem sIxF_out {c : Int32} : ∀ (l : List Int32) (k : Nat), (∀ b ∈ l, ¬ b = c) → sIxF c l k = -1
  | [], _, _ => rfl
  | b :: l, k, h => by
    rw [sIxF, if_neg (h b List.mem_cons_self)]
    exact sIxF_out l (k + 1) (fun w hw => h w (List.mem_cons_of_mem _ hw))
set_option maxRecDepth 100000 in
set_option maxHeartbeats 4000000 in
theorem mJ_l1charAt (l : Launch) {G : GG} {Y : LY} {S : HS} {i : Nat} (hi : i < 3) {k : Int32} (hk : inr k (lenJS.getD i 0) = true) : MM l yJ1_charAt_3b067 cJ1_charAt_3b067 2 (some .char) 2 43 G Y S [.ref (G.2.2.2 i), .int k] S (some (.int ((bytJS.getD i []).getD k.toNatClampNeg 0))) := by
  obtain ⟨h0, h1, j, hj, hkj⟩ := inr_of hk (by have := (js_l i hi).2; omega)
  have hv := js_b i hi j hj
  rw [show j = k.toNatClampNeg by rw [hkj, nI_clamp (by have := (js_l i hi).2; omega)]] at hv
  refine mm_of2 (by decide +kernel) (Nat.le_of_ble_eq_true rfl) (c1c (ca _) (c1c (ci _) c1n)) ?_
  intro p e R s m args below meth c X H locs ls hP hl
  have X : Cx p R s m args meth c RJ1 cJ1_charAt_3b067 2 2 43 (fun q => q ∈ Y.1) G (some .char) := X
  have hx := X.1.1
  have hb := X.1.2.1
  have hl : LV ls 2 [(0, .ref (G.2.2.2 i)), (1, .int k)] := hl
  refine lv_iload_n hx hb dJ1_charAt_3b067_0 rfl (hl.at 1 rfl) ?_
  refine lv_aload_n hx hb dJ1_charAt_3b067_1 rfl (hl.at 0 rfl) ?_
  refine rs_tlen X hi dJ1_charAt_3b067_2 hP ?_
  refine rw_callSv (As := [.int k, .int (sLen i)]) X dJ1_charAt_3b067_3 clJ1_9 pyJ0_checkIndex_df160 (mJ_check l h0 h1) (by decide) hP rfl (catL c1n (Nat.le_of_ble_eq_true rfl)) hl.1.1 (fun H locs hP => ?_)
  refine lv_aload_n hx hb dJ1_charAt_3b067_6 rfl (hl.at 0 rfl) ?_
  refine lv_iload_n hx hb dJ1_charAt_3b067_7 rfl (hl.at 1 rfl) ?_
  refine va_tb hx hb (X.2.2.1.1.1 i hi).2.2.2 hP.2.2 (inr_in hk) rfl dJ1_charAt_3b067_8 ?_
  refine lv_sipush (v := 255) hx hb dJ1_charAt_3b067_9 (by decide) ?_
  refine lv_iand hx hb dJ1_charAt_3b067_12 ?_
  refine lv_i2c (v := (bytJS.getD i []).getD k.toNatClampNeg 0) hx hb dJ1_charAt_3b067_13 hv ?_
  exact rw_xret X rfl (by rw [← hv]; exact pk_nc _) dJ1_charAt_3b067_14 hP
set_option maxRecDepth 100000 in
set_option maxHeartbeats 4000000 in
theorem mJ_charAt (l : Launch) {G : GG} {Y : LY} {S : HS} {i : Nat} (hi : i < 3) {k : Int32} (hk : inr k (lenJS.getD i 0) = true) : MM l yJ0_charAt_5068e cJ0_charAt_5068e 2 (some .char) 3 64 G Y S [.ref (G.2.2.1 i), .int k] S (some (.int ((bytJS.getD i []).getD k.toNatClampNeg 0))) := by
  obtain ⟨h0, h1, j, hj, hkj⟩ := inr_of hk (by have := (js_l i hi).2; omega)
  have hv := js_b i hi j hj
  rw [show j = k.toNatClampNeg by rw [hkj, nI_clamp (by have := (js_l i hi).2; omega)]] at hv
  refine mm_of2 (by decide +kernel) (Nat.le_of_ble_eq_true rfl) (c1c (ca _) (c1c (ci _) c1n)) ?_
  intro p e R s m args below meth c X H locs ls hP hl
  have X : Cx p R s m args meth c RJ0 cJ0_charAt_5068e 2 3 64 (fun q => q ∈ Y.1) G (some .char) := X
  have hx := X.1.1
  have hb := X.1.2.1
  have hl : LV ls 2 [(0, .ref (G.2.2.1 i)), (1, .int k)] := hl
  refine lv_aload_n hx hb dJ0_charAt_5068e_0 rfl (hl.at 0 rfl) ?_
  refine rw_callK (As := []) X hi dJ0_charAt_5068e_1 clJ0_492 pyJ0_isLatin1_aae02 (mJ_isLatin1 l hi) (by decide) rfl hP rfl (catL c1n (Nat.le_of_ble_eq_true rfl)) hl.1.1 (fun H locs hP => ?_)
  refine W.eq (g2 := F0 m 4 ls [.int 1]) rfl ?_
  refine lv_if_eq (tgt := 16) hx hb dJ0_charAt_5068e_4 (by decide) (fun c => absurd c (by decide)) (fun _ => ?_)
  refine lv_aload_n hx hb dJ0_charAt_5068e_7 rfl (hl.at 0 rfl) ?_
  refine vk_getf hx hb (X.2.2.1.1.1 i hi).2.2.1 hP.2.2 X.1.2.2.2.1 (X.1.2.2.2.2 _ tbJ9) (fun _ h => h) dJ0_charAt_5068e_8 ?_
  refine lv_iload_n hx hb dJ0_charAt_5068e_11 rfl (hl.at 1 rfl) ?_
  refine rw_callSi (As := [.ref (G.2.2.2 i), .int k]) X dJ0_charAt_5068e_12 clJ0_495 pyJ1_charAt_3b067 (mJ_l1charAt l hi hk) (by decide) hP rfl (catL c1n (Nat.le_of_ble_eq_true rfl)) hl.1.1 (fun H locs hP => ?_)
  exact rw_xret X rfl (by rw [← hv]; exact pk_nc _) dJ0_charAt_5068e_15 hP
set_option maxRecDepth 100000 in
set_option maxHeartbeats 4000000 in
theorem wJ_ixc {p : Program} {l : Launch} {e : Env} {R : Room} {s : State} {m : MethodId} {args : Array Value} {below : List Frame} {meth : Method} {c : Code} {G : GG} {Y : LY} {S : HS} {i n : Nat} (hi : i < 3) (hn : n < 256)
    (X : Cx p R s m args meth c RJ1 cJ1_indexOfChar_4cfef 6 0 0 (fun q => q ∈ Y.1) G (some .int)) : ∀ (L : List Int32) (k : Nat), k ≤ lenJS.getD i 0 → (bytJS.getD i []).drop k = L → ∀ (H : Heap) (locs : List Loc) (ls : Array Slot), HP (fun q => q ∈ Y.1) G Y s S H locs → LV ls 6 [(5, .int (nI k)), (4, .int (nI n).toInt8.toInt32), (0, .ref (G.2.2.2 i)), (3, .int (sLen i))] → W p l e R s m args below meth c H locs 0 0 (MQ below (QI G Y S (some (.int (sIxF (nI n) L k)))) args s 0 0 (fun q => q ∈ Y.1)) (F0 m 7 ls []) := by
  have hx := X.1.1
  have hb := X.1.2.1
  obtain ⟨hlen, h100⟩ := js_l i hi
  intro L
  induction L with
  | nil =>
    intro k hk hd H locs ls hP hl
    have hkl : k = lenJS.getD i 0 := by
      have := congrArg List.length hd
      rw [List.length_drop, hlen] at this
      rw [List.length_nil] at this
      omega
    refine lv_iload hx hb dJ1_indexOfChar_4cfef_7 (hl.at 0 rfl) ?_
    refine lv_iload_n hx hb dJ1_indexOfChar_4cfef_9 rfl (hl.at 3 rfl) ?_
    refine lv_icmp_ge (tgt := 31) hx hb dJ1_indexOfChar_4cfef_10 (by decide) (fun c => ?_) (fun c => ?_)
    · refine lv_iconst (v := -1) hx hb dJ1_indexOfChar_4cfef_31 (by decide) ?_
      exact rw_iret X dJ1_indexOfChar_4cfef_32 hP
    · exact absurd (nI_le (by omega) (by omega)) c
  | cons b L ih =>
    intro k hk hd H locs ls hP hl
    have hkl : k < (bytJS.getD i []).length := by
      have := congrArg List.length hd
      rw [List.length_drop, List.length_cons] at this
      omega
    have hbk : (bytJS.getD i []).getD k 0 = b ∧ (bytJS.getD i []).drop (k + 1) = L ∧ b ∈ bytJS.getD i [] := by
      have e1 : (bytJS.getD i [])[k]? = some b := by
        have := congrArg (fun l => l[0]?) hd
        simp only [List.getElem?_drop, Nat.add_zero, List.getElem?_cons_zero] at this
        exact this
      refine ⟨by rw [List.getD_eq_getElem?_getD, e1]; rfl, ?_, List.mem_of_getElem? e1⟩
      have := congrArg (fun l => l.drop 1) hd
      simpa [List.drop_drop, Nat.add_comm] using this
    obtain ⟨hb1, hb2, hb3⟩ := hbk
    refine lv_iload hx hb dJ1_indexOfChar_4cfef_7 (hl.at 0 rfl) ?_
    refine lv_iload_n hx hb dJ1_indexOfChar_4cfef_9 rfl (hl.at 3 rfl) ?_
    refine lv_icmp_ge (tgt := 31) hx hb dJ1_indexOfChar_4cfef_10 (by decide) (fun c => absurd c (nI_ge (by omega) (by omega))) (fun c => ?_)
    refine lv_aload_n hx hb dJ1_indexOfChar_4cfef_13 rfl (hl.at 2 rfl) ?_
    refine lv_iload hx hb dJ1_indexOfChar_4cfef_14 (hl.at 0 rfl) ?_
    refine va_tb (v := .int b) hx hb (X.2.2.1.1.1 i hi).2.2.2 hP.2.2 (vp_in_nI (by omega) (by omega)) (by rw [nI_clamp (by omega), hb1]) dJ1_indexOfChar_4cfef_16 ?_
    refine lv_iload hx hb dJ1_indexOfChar_4cfef_17 (hl.at 1 rfl) ?_
    refine lv_icmp_ne (tgt := 25) hx hb dJ1_indexOfChar_4cfef_19 (by decide) (fun c2 => ?_) (fun c2 => ?_)
    · rw [sIxF, if_neg (fun h => c2 ((js_c n hn i hi b hb3).mpr h))]
      refine rv_iinc (k := 0) (d := 1) X dJ1_indexOfChar_4cfef_25 hl rfl (by decide) (by decide) rfl (fun ls hl => ?_)
      have hl : LV ls 6 [(5, .int (nI (k + 1))), (4, .int (nI n).toInt8.toInt32), (0, .ref (G.2.2.2 i)), (3, .int (sLen i))] := by rw [nI_succ]; exact hl
      refine lv_goto (tgt := 7) hx hb dJ1_indexOfChar_4cfef_28 (by decide) ?_
      exact ih (k + 1) (by omega) hb2 H locs ls hP hl
    · rw [sIxF, if_pos ((js_c n hn i hi b hb3).mp c2)]
      refine lv_iload hx hb dJ1_indexOfChar_4cfef_22 (hl.at 0 rfl) ?_
      exact rw_iret X dJ1_indexOfChar_4cfef_24 hP
set_option maxRecDepth 100000 in
set_option maxHeartbeats 4000000 in
theorem mJ_ixc (l : Launch) {G : GG} {Y : LY} {S : HS} {i n : Nat} (hi : i < 3) (hn : n < 256) : MM l yJ1_indexOfChar_4cfef cJ1_indexOfChar_4cfef 6 (some .int) 0 0 G Y S [.ref (G.2.2.2 i), .int (nI n), .int 0, .int (sLen i)] S (some (.int (sIxF (nI n) (bytJS.getD i []) 0))) := by
  refine mm_of2 (by decide +kernel) (Nat.le_of_ble_eq_true rfl) (c1c (ca _) (c1c (ci _) (c1c (ci _) (c1c (ci _) c1n)))) ?_
  intro p e R s m args below meth c X H locs ls hP hl
  have X : Cx p R s m args meth c RJ1 cJ1_indexOfChar_4cfef 6 0 0 (fun q => q ∈ Y.1) G (some .int) := X
  have hx := X.1.1
  have hb := X.1.2.1
  have hl : LV ls 6 [(0, .ref (G.2.2.2 i)), (1, .int (nI n)), (2, .int 0), (3, .int (sLen i))] := hl
  refine lv_iload_n hx hb dJ1_indexOfChar_4cfef_0 rfl (hl.at 1 rfl) ?_
  refine lv_i2b hx hb dJ1_indexOfChar_4cfef_1 rfl ?_
  refine rv_istore X dJ1_indexOfChar_4cfef_2 hl (by decide) rfl (fun ls hl => ?_)
  have hl : LV ls 6 [(4, .int (nI n).toInt8.toInt32), (0, .ref (G.2.2.2 i)), (1, .int (nI n)), (2, .int 0), (3, .int (sLen i))] := hl
  refine lv_iload_n hx hb dJ1_indexOfChar_4cfef_4 rfl (hl.at 3 rfl) ?_
  refine rv_istore X dJ1_indexOfChar_4cfef_5 hl (by decide) rfl (fun ls hl => ?_)
  have hl : LV ls 6 [(5, .int 0), (4, .int (nI n).toInt8.toInt32), (0, .ref (G.2.2.2 i)), (1, .int (nI n)), (2, .int 0), (3, .int (sLen i))] := hl
  have hl2 : LV ls 6 [(5, .int (nI 0)), (4, .int (nI n).toInt8.toInt32), (0, .ref (G.2.2.2 i)), (3, .int (sLen i))] := by rw [nI_0]; exact hl.sub [0, 1, 2, 5] rfl
  exact wJ_ixc hi hn X _ 0 (Nat.zero_le _) rfl _ _ _ hP hl2
set_option maxRecDepth 100000 in
set_option maxHeartbeats 4000000 in
theorem mJ_l1ix (l : Launch) {G : GG} {Y : LY} {S : HS} {i : Nat} (hi : i < 3) {k : Int32} : MM l yJ1_indexOf_4cfef cJ1_indexOf_4cfef 4 (some .int) 1 40 G Y S [.ref (G.2.2.2 i), .int k, .int 0, .int (sLen i)] S (some (.int (sIxF k (bytJS.getD i []) 0))) := by
  refine mm_of2 (by decide +kernel) (Nat.le_of_ble_eq_true rfl) (c1c (ca _) (c1c (ci _) (c1c (ci _) (c1c (ci _) c1n)))) ?_
  intro p e R s m args below meth c X H locs ls hP hl
  have X : Cx p R s m args meth c RJ1 cJ1_indexOf_4cfef 4 1 40 (fun q => q ∈ Y.1) G (some .int) := X
  have hx := X.1.1
  have hb := X.1.2.1
  have hl : LV ls 4 [(0, .ref (G.2.2.2 i)), (1, .int k), (2, .int 0), (3, .int (sLen i))] := hl
  obtain ⟨hlen, h100⟩ := js_l i hi
  refine lv_iload_n hx hb dJ1_indexOf_4cfef_0 rfl (hl.at 1 rfl) ?_
  refine rw_callSi (As := [.int k]) X dJ1_indexOf_4cfef_1 clJ1_88 pyJ1_canEncode_9a6ad (mJ_canEncode l) (by decide) hP rfl (catL c1n (Nat.le_of_ble_eq_true rfl)) hl.1.1 (fun H locs hP => ?_)
  by_cases hc : k < 0 ∨ 255 < k
  · have e0 : (if k < 0 then (0 : Int32) else if 255 < k then 0 else 1) = 0 := by
      rcases hc with hc | hc
      · rw [if_pos hc]
      · by_cases h2 : k < 0
        · rw [if_pos h2]
        · rw [if_neg h2, if_pos hc]
    rw [e0]
    refine lv_if_ne (tgt := 9) hx hb dJ1_indexOf_4cfef_4 (by decide) (fun c => absurd rfl c) (fun _ => ?_)
    refine lv_iconst (v := -1) hx hb dJ1_indexOf_4cfef_7 (by decide) ?_
    have e1 : sIxF k (bytJS.getD i []) 0 = -1 := sIxF_out _ _ (fun b hb h => by
      have := js_out i hi b hb
      rw [h] at this
      rcases hc with hc | hc
      · exact this.1 hc
      · exact this.2 hc)
    rw [e1]
    exact rw_iret X dJ1_indexOf_4cfef_8 hP
  · have hc1 : ¬ k < 0 := fun h => hc (Or.inl h)
    have hc2 : ¬ 255 < k := fun h => hc (Or.inr h)
    rw [if_neg hc1, if_neg hc2]
    obtain ⟨n, hn, rfl⟩ := nI_of2 (M := 255) (n := 255) (by decide) hc1 (by
      rw [Int32.le_iff_toInt_le]
      rw [Int32.lt_iff_toInt_lt] at hc2
      omega)
    refine lv_if_ne (tgt := 9) hx hb dJ1_indexOf_4cfef_4 (by decide) (fun _ => ?_) (fun c => absurd c (by decide))
    refine lv_iload_n hx hb dJ1_indexOf_4cfef_9 rfl (hl.at 2 rfl) ?_
    refine lv_iconst (v := 0) hx hb dJ1_indexOf_4cfef_10 (by decide) ?_
    refine rv_max X mlJ1_92 ⟨Nat.le_of_ble_eq_true rfl, Nat.le_of_ble_eq_true rfl⟩ c1n hl.1.1 dJ1_indexOf_4cfef_11 ?_
    rw [show jmax 0 0 = 0 from rfl]
    refine rv_istore_n X dJ1_indexOf_4cfef_14 rfl hl (by decide) rfl (fun ls hl => ?_)
    have hl : LV ls 4 [(2, .int 0), (0, .ref (G.2.2.2 i)), (1, .int (nI n)), (3, .int (sLen i))] := hl
    refine lv_iload_n hx hb dJ1_indexOf_4cfef_15 rfl (hl.at 3 rfl) ?_
    refine lv_aload_n hx hb dJ1_indexOf_4cfef_16 rfl (hl.at 1 rfl) ?_
    refine rs_tlen X hi dJ1_indexOf_4cfef_17 hP ?_
    refine rv_min X mlJ1_38 ⟨Nat.le_of_ble_eq_true rfl, Nat.le_of_ble_eq_true rfl⟩ c1n hl.1.1 dJ1_indexOf_4cfef_18 ?_
    rw [show jmin (sLen i) (sLen i) = sLen i by unfold jmin; exact ite_self _]
    refine rv_istore_n X dJ1_indexOf_4cfef_21 rfl hl (by decide) rfl (fun ls hl => ?_)
    have hl : LV ls 4 [(3, .int (sLen i)), (2, .int 0), (0, .ref (G.2.2.2 i)), (1, .int (nI n))] := hl
    refine lv_iload_n hx hb dJ1_indexOf_4cfef_22 rfl (hl.at 1 rfl) ?_
    refine lv_iload_n hx hb dJ1_indexOf_4cfef_23 rfl (hl.at 0 rfl) ?_
    have hpos : (0 : Int32) < sLen i := by
      have : ∀ i, i < 3 → (0 : Int32) < sLen i := by decide +kernel
      exact this i hi
    refine lv_icmp_lt (tgt := 29) hx hb dJ1_indexOf_4cfef_24 (by decide) (fun _ => ?_) (fun c => absurd hpos c)
    refine lv_aload_n hx hb dJ1_indexOf_4cfef_29 rfl (hl.at 2 rfl) ?_
    refine lv_iload_n hx hb dJ1_indexOf_4cfef_30 rfl (hl.at 3 rfl) ?_
    refine lv_iload_n hx hb dJ1_indexOf_4cfef_31 rfl (hl.at 1 rfl) ?_
    refine lv_iload_n hx hb dJ1_indexOf_4cfef_32 rfl (hl.at 0 rfl) ?_
    refine rw_callSi (As := [.ref (G.2.2.2 i), .int (nI n), .int 0, .int (sLen i)]) X dJ1_indexOf_4cfef_33 clJ1_95 pyJ1_indexOfChar_4cfef (mJ_ixc l hi (by omega)) (by decide) hP rfl (catL c1n (Nat.le_of_ble_eq_true rfl)) hl.1.1 (fun H locs hP => ?_)
    exact rw_iret X dJ1_indexOf_4cfef_36 hP
set_option maxRecDepth 100000 in
set_option maxHeartbeats 4000000 in
theorem mJ_ix2 (l : Launch) {G : GG} {Y : LY} {S : HS} {i : Nat} (hi : i < 3) {k : Int32} : MM l yJ0_indexOf_7cf53 cJ0_indexOf_7cf53 3 (some .int) 2 63 G Y S [.ref (G.2.2.1 i), .int k, .int 0] S (some (.int (sIxF k (bytJS.getD i []) 0))) := by
  refine mm_of2 (by decide +kernel) (Nat.le_of_ble_eq_true rfl) (c1c (ca _) (c1c (ci _) (c1c (ci _) c1n))) ?_
  intro p e R s m args below meth c X H locs ls hP hl
  have X : Cx p R s m args meth c RJ0 cJ0_indexOf_7cf53 3 2 63 (fun q => q ∈ Y.1) G (some .int) := X
  have hx := X.1.1
  have hb := X.1.2.1
  have hl : LV ls 3 [(0, .ref (G.2.2.1 i)), (1, .int k), (2, .int 0)] := hl
  refine lv_aload_n hx hb dJ0_indexOf_7cf53_0 rfl (hl.at 0 rfl) ?_
  refine rw_callK (As := []) X hi dJ0_indexOf_7cf53_1 clJ0_492 pyJ0_isLatin1_aae02 (mJ_isLatin1 l hi) (by decide) rfl hP rfl (catL c1n (Nat.le_of_ble_eq_true rfl)) hl.1.1 (fun H locs hP => ?_)
  refine W.eq (g2 := F0 m 4 ls [.int 1]) rfl ?_
  refine lv_if_eq (tgt := 23) hx hb dJ0_indexOf_7cf53_4 (by decide) (fun c => absurd c (by decide)) (fun _ => ?_)
  refine lv_aload_n hx hb dJ0_indexOf_7cf53_7 rfl (hl.at 0 rfl) ?_
  refine vk_getf hx hb (X.2.2.1.1.1 i hi).2.2.1 hP.2.2 X.1.2.2.2.1 (X.1.2.2.2.2 _ tbJ9) (fun _ h => h) dJ0_indexOf_7cf53_8 ?_
  refine lv_iload_n hx hb dJ0_indexOf_7cf53_11 rfl (hl.at 1 rfl) ?_
  refine lv_iload_n hx hb dJ0_indexOf_7cf53_12 rfl (hl.at 2 rfl) ?_
  refine lv_aload_n hx hb dJ0_indexOf_7cf53_13 rfl (hl.at 0 rfl) ?_
  refine rw_callK (As := []) X hi dJ0_indexOf_7cf53_14 clJ0_505 pyJ0_length_8abf5 (mJ_length l hi) (by decide) rfl hP rfl (catL (c1c (ci _) (c1c (ci _) (c1c (ca _) c1n))) (Nat.le_of_ble_eq_true rfl)) hl.1.1 (fun H locs hP => ?_)
  refine W.eq (g2 := F0 m 17 ls [.int (sLen i), .int 0, .int k, .ref (G.2.2.2 i)]) rfl ?_
  refine rw_callSi (As := [.ref (G.2.2.2 i), .int k, .int 0, .int (sLen i)]) X dJ0_indexOf_7cf53_17 clJ0_637 pyJ1_indexOf_4cfef (mJ_l1ix l hi) (by decide) hP rfl (catL c1n (Nat.le_of_ble_eq_true rfl)) hl.1.1 (fun H locs hP => ?_)
  refine lv_goto (tgt := 36) hx hb dJ0_indexOf_7cf53_20 (by decide) ?_
  exact rw_iret X dJ0_indexOf_7cf53_36 hP
set_option maxRecDepth 100000 in
set_option maxHeartbeats 4000000 in
theorem mJ_ix1 (l : Launch) {G : GG} {Y : LY} {S : HS} {i : Nat} (hi : i < 3) {k : Int32} : MM l yJ0_indexOf_0f7a4 cJ0_indexOf_0f7a4 2 (some .int) 3 85 G Y S [.ref (G.2.2.1 i), .int k] S (some (.int (sIxF k (bytJS.getD i []) 0))) := by
  refine mm_of2 (by decide +kernel) (Nat.le_of_ble_eq_true rfl) (c1c (ca _) (c1c (ci _) c1n)) ?_
  intro p e R s m args below meth c X H locs ls hP hl
  have X : Cx p R s m args meth c RJ0 cJ0_indexOf_0f7a4 2 3 85 (fun q => q ∈ Y.1) G (some .int) := X
  have hx := X.1.1
  have hb := X.1.2.1
  have hl : LV ls 2 [(0, .ref (G.2.2.1 i)), (1, .int k)] := hl
  refine lv_aload_n hx hb dJ0_indexOf_0f7a4_0 rfl (hl.at 0 rfl) ?_
  refine lv_iload_n hx hb dJ0_indexOf_0f7a4_1 rfl (hl.at 1 rfl) ?_
  refine lv_iconst (v := 0) hx hb dJ0_indexOf_0f7a4_2 (by decide) ?_
  refine rw_callK (As := [.int k, .int 0]) X hi dJ0_indexOf_0f7a4_3 clJ0_633 pyJ0_indexOf_7cf53 (mJ_ix2 l hi) (by decide) rfl hP rfl (catL c1n (Nat.le_of_ble_eq_true rfl)) hl.1.1 (fun H locs hP => ?_)
  exact rw_iret X dJ0_indexOf_0f7a4_6 hP
section RT
variable {p : Program} {l : Launch} {e : Env} {R : Room} {s : State} {m : MethodId} {args : Array Value} {below : List Frame} {meth : Method} {c : Code} {H : Heap} {locs : List Loc} {Q : State → Prop}
variable {own : String} {cc : ByteArray} {nL nf nl : Nat} {A : Nat → Prop} {G : GG} {rt : Option FieldType} {Y : LY} {S S1 : HS} {pc : Nat} {ls : Array Slot} {rest : List Value}
theorem rs_len (X : Cx p R s m args meth c own cc nL nf nl A G rt) {index i : Nat} (hC : CLv own index yJ0_length_8abf5 cJ0_length_8abf5 1 (some .int)) (hi : i < 3) (hroom : 8 ≤ nf ∧ 400 ≤ nl) (hcat : (rest.map fun v => v.category).sum ≤ 8) (hsz : ls.size = nL) (hdg : decode cc pc = .ok (.invokevirtual index, 3)) (hP : HP A G Y s S H locs)
    (kk : ∀ (H1 : Heap) (locs1 : List Loc), HP A G Y s S H1 locs1 → W p l e R s m args below meth c H1 locs1 0 0 Q (F0 m (pc + 3) ls (.int (sLen i) :: rest))) : W p l e R s m args below meth c H locs 0 0 Q (F0 m pc ls (.ref (G.2.2.1 i) :: rest)) :=
  rw_callK (As := []) X hi hdg hC pyJ0_length_8abf5 (mJ_length l hi) (by omega) rfl hP rfl hcat hsz kk
theorem rs_ch (X : Cx p R s m args meth c own cc nL nf nl A G rt) {index i : Nat} {k v : Int32} (hC : CLv own index yJ0_charAt_5068e cJ0_charAt_5068e 2 (some .char)) (h : sCh i k = some v) (hroom : 8 ≤ nf ∧ 400 ≤ nl) (hcat : (rest.map fun v => v.category).sum ≤ 8) (hsz : ls.size = nL) (hdg : decode cc pc = .ok (.invokevirtual index, 3)) (hP : HP A G Y s S H locs)
    (kk : ∀ (H1 : Heap) (locs1 : List Loc), HP A G Y s S H1 locs1 → W p l e R s m args below meth c H1 locs1 0 0 Q (F0 m (pc + 3) ls (.int v :: rest))) : W p l e R s m args below meth c H locs 0 0 Q (F0 m pc ls (.int k :: .ref (G.2.2.1 i) :: rest)) := by
  unfold sCh at h
  by_cases hc : (decide (i < 3) && inr k (lenJS.getD i 0)) = true
  · rw [if_pos hc] at h
    cases h
    rw [Bool.and_eq_true, decide_eq_true_eq] at hc
    exact rw_callK (As := [.int k]) X hc.1 hdg hC pyJ0_charAt_5068e (mJ_charAt l hc.1 hc.2) (by omega) rfl hP rfl hcat hsz kk
  · rw [if_neg hc] at h
    cases h
theorem rs_ix (X : Cx p R s m args meth c own cc nL nf nl A G rt) {index i : Nat} {k v : Int32} (hC : CLv own index yJ0_indexOf_0f7a4 cJ0_indexOf_0f7a4 2 (some .int)) (h : sIx i k = some v) (hroom : 8 ≤ nf ∧ 400 ≤ nl) (hcat : (rest.map fun v => v.category).sum ≤ 8) (hsz : ls.size = nL) (hdg : decode cc pc = .ok (.invokevirtual index, 3)) (hP : HP A G Y s S H locs)
    (kk : ∀ (H1 : Heap) (locs1 : List Loc), HP A G Y s S H1 locs1 → W p l e R s m args below meth c H1 locs1 0 0 Q (F0 m (pc + 3) ls (.int v :: rest))) : W p l e R s m args below meth c H locs 0 0 Q (F0 m pc ls (.int k :: .ref (G.2.2.1 i) :: rest)) := by
  unfold sIx at h
  by_cases hc : i < 3
  · rw [if_pos hc] at h
    cases h
    exact rw_callK (As := [.int k]) X hc hdg hC pyJ0_indexOf_0f7a4 (mJ_ix1 l hc) (by omega) rfl hP rfl hcat hsz kk
  · rw [if_neg hc] at h
    cases h
end RT
end
section
/-! printed by wip/whole/gen/gen_parts.py: 10.leaves -/
theorem dJ9_floorMod_7cf53_0 : decode cJ9_floorMod_7cf53 0 = .ok (.iload_n 0, 1) := by decide +kernel
theorem dJ9_floorMod_7cf53_1 : decode cJ9_floorMod_7cf53 1 = .ok (.iload_n 1, 1) := by decide +kernel
theorem dJ9_floorMod_7cf53_2 : decode cJ9_floorMod_7cf53 2 = .ok (.irem, 1) := by decide +kernel
theorem dJ9_floorMod_7cf53_3 : decode cJ9_floorMod_7cf53 3 = .ok (.istore_n 2, 1) := by decide +kernel
theorem dJ9_floorMod_7cf53_4 : decode cJ9_floorMod_7cf53 4 = .ok (.iload_n 0, 1) := by decide +kernel
theorem dJ9_floorMod_7cf53_5 : decode cJ9_floorMod_7cf53 5 = .ok (.iload_n 1, 1) := by decide +kernel
theorem dJ9_floorMod_7cf53_6 : decode cJ9_floorMod_7cf53 6 = .ok (.ixor, 1) := by decide +kernel
theorem dJ9_floorMod_7cf53_7 : decode cJ9_floorMod_7cf53 7 = .ok (.ifCond .ge 11, 3) := by decide +kernel
theorem dJ9_floorMod_7cf53_10 : decode cJ9_floorMod_7cf53 10 = .ok (.iload_n 2, 1) := by decide +kernel
theorem dJ9_floorMod_7cf53_11 : decode cJ9_floorMod_7cf53 11 = .ok (.ifCond .eq 7, 3) := by decide +kernel
theorem dJ9_floorMod_7cf53_14 : decode cJ9_floorMod_7cf53 14 = .ok (.iload_n 2, 1) := by decide +kernel
theorem dJ9_floorMod_7cf53_15 : decode cJ9_floorMod_7cf53 15 = .ok (.iload_n 1, 1) := by decide +kernel
theorem dJ9_floorMod_7cf53_16 : decode cJ9_floorMod_7cf53 16 = .ok (.iadd, 1) := by decide +kernel
theorem dJ9_floorMod_7cf53_17 : decode cJ9_floorMod_7cf53 17 = .ok (.ireturn, 1) := by decide +kernel
theorem dJ9_floorMod_7cf53_18 : decode cJ9_floorMod_7cf53 18 = .ok (.iload_n 2, 1) := by decide +kernel
theorem dJ9_floorMod_7cf53_19 : decode cJ9_floorMod_7cf53 19 = .ok (.ireturn, 1) := by decide +kernel
theorem pyJ9_floorMod_7cf53 : PY yJ9_floorMod_7cf53 2 := ⟨by decide +kernel, by decide +kernel, by decide +kernel⟩
def fJ9_floorMod_7cf53 (Y : LY) (S : HS) (l0 : Int32) (l1 : Int32) : Option (Int32) :=
  if l1 = 0 then none else
  if 0 ≤ (l0 ^^^ l1) then
    some (l0 - l0 / l1 * l1)
  else
    if (l0 - l0 / l1 * l1) = 0 then
      some (l0 - l0 / l1 * l1)
    else
      some ((l0 - l0 / l1 * l1) + l1)
set_option maxRecDepth 100000 in
set_option maxHeartbeats 4000000 in
theorem mJ9_floorMod_7cf53 (l : Launch) {G : GG} {Y : LY} {S : HS} {l0 : Int32} {l1 : Int32} {res : Int32} (hf : fJ9_floorMod_7cf53 Y S l0 l1 = some res) : MM l yJ9_floorMod_7cf53 cJ9_floorMod_7cf53 3 (some .int) 0 0 G Y S [.int l0, .int l1] S (some (.int res)) := by
  refine mm_of2 (by decide +kernel) (Nat.le_of_ble_eq_true rfl) (c1c (ci _) (c1c (ci _) c1n)) ?_
  intro p e R s m args below meth c X H locs ls hP hl
  have X : Cx p R s m args meth c RJ9 cJ9_floorMod_7cf53 3 0 0 (fun q => q ∈ Y.1) G (some .int) := X
  have hx := X.1.1
  have hb := X.1.2.1
  have hl : LV ls 3 [(0, .int l0), (1, .int l1)] := hl
  unfold fJ9_floorMod_7cf53 at hf
  refine lv_iload_n hx hb dJ9_floorMod_7cf53_0 rfl (hl.at 0 rfl) ?_
  refine lv_iload_n hx hb dJ9_floorMod_7cf53_1 rfl (hl.at 1 rfl) ?_
  by_cases c2 : l1 = 0
  · exact absurd (ifp hf c2) (fun h => by cases h)
  have hf := ifn hf c2
  refine lv_irem hx hb dJ9_floorMod_7cf53_2 c2 ?_
  refine rv_istore_n X dJ9_floorMod_7cf53_3 rfl hl (by decide) rfl (fun ls hl => ?_)
  have hl : LV ls 3 [(2, .int (l0 - l0 / l1 * l1)), (0, .int l0), (1, .int l1)] := hl
  refine lv_iload_n hx hb dJ9_floorMod_7cf53_4 rfl (hl.at 1 rfl) ?_
  refine lv_iload_n hx hb dJ9_floorMod_7cf53_5 rfl (hl.at 2 rfl) ?_
  refine lv_ixor hx hb dJ9_floorMod_7cf53_6 ?_
  refine lv_if_ge hx hb (tgt := 18) dJ9_floorMod_7cf53_7 (by decide) (fun c7 => ?_) (fun c7 => ?_)
  · have hf := ifp hf c7
    refine lv_iload_n hx hb dJ9_floorMod_7cf53_18 rfl (hl.at 0 rfl) ?_
    cases hf
    exact rw_iret X dJ9_floorMod_7cf53_19 hP
  · have hf := ifn hf c7
    refine lv_iload_n hx hb dJ9_floorMod_7cf53_10 rfl (hl.at 0 rfl) ?_
    refine lv_if_eq hx hb (tgt := 18) dJ9_floorMod_7cf53_11 (by decide) (fun c11 => ?_) (fun c11 => ?_)
    · have hf := ifp hf c11
      refine lv_iload_n hx hb dJ9_floorMod_7cf53_18 rfl (hl.at 0 rfl) ?_
      cases hf
      exact rw_iret X dJ9_floorMod_7cf53_19 hP
    · have hf := ifn hf c11
      refine lv_iload_n hx hb dJ9_floorMod_7cf53_14 rfl (hl.at 0 rfl) ?_
      refine lv_iload_n hx hb dJ9_floorMod_7cf53_15 rfl (hl.at 2 rfl) ?_
      refine lv_iadd hx hb dJ9_floorMod_7cf53_16 ?_
      cases hf
      exact rw_iret X dJ9_floorMod_7cf53_17 hP
theorem dX1_clear_0 : decode cX1_clear 0 = .ok (.aload_n 0, 1) := by decide +kernel
theorem dX1_clear_1 : decode cX1_clear 1 = .ok (.iconst 0, 1) := by decide +kernel
theorem dX1_clear_2 : decode cX1_clear 2 = .ok (.putfield 7, 3) := by decide +kernel
theorem dX1_clear_5 : decode cX1_clear 5 = .ok (.aload_n 0, 1) := by decide +kernel
theorem dX1_clear_6 : decode cX1_clear 6 = .ok (.aconst_null, 1) := by decide +kernel
theorem dX1_clear_7 : decode cX1_clear 7 = .ok (.putfield 24, 3) := by decide +kernel
theorem dX1_clear_10 : decode cX1_clear 10 = .ok (.return_, 1) := by decide +kernel
theorem pyX1_clear : PY yX1_clear 0 := ⟨by decide +kernel, by decide +kernel, by decide +kernel⟩
def fX1_clear (Y : LY) (S : HS) (l0 : Option Nat) : Option (HS) :=
  (pZ Y 1 100 l0 0 S).bind fun S2 =>
  (pR Y 1 104 l0 none S2).bind fun S7 =>
  some S7
set_option maxRecDepth 100000 in
set_option maxHeartbeats 4000000 in
theorem mX1_clear (l : Launch) {G : GG} {Y : LY} {S : HS} {l0 : Option Nat} {res : HS} (hf : fX1_clear Y S l0 = some res) : MM l yX1_clear cX1_clear 1 none 0 0 G Y S [va_rf l0] res none := by
  refine mm_of2 (plainFor_of_name (by decide +kernel)) (Nat.le_of_ble_eq_true rfl) (c1c (cr _) c1n) ?_
  intro p e R s m args below meth c X H locs ls hP hl
  have X : Cx p R s m args meth c RX1 cX1_clear 1 0 0 (fun q => q ∈ Y.1) G none := X
  have hx := X.1.1
  have hb := X.1.2.1
  have hl : LV ls 1 [(0, va_rf l0)] := hl
  unfold fX1_clear at hf
  refine rw_aload_n X dX1_clear_0 rfl (hl.at 0 rfl) ?_
  refine lv_iconst (v := 0) hx hb dX1_clear_1 (by decide) ?_
  obtain ⟨S2, e2, hf⟩ := ob hf
  refine rw_putZ X dX1_clear_2 fl1_7 fw1_0 e2 rfl hP (fun H locs hP => ?_)
  refine rw_aload_n X dX1_clear_5 rfl (hl.at 0 rfl) ?_
  refine lv_null hx hb dX1_clear_6 ?_
  refine W.eq (g2 := F0 m 7 ls (va_rf none :: (va_rf l0 :: []))) rfl ?_
  obtain ⟨S7, e7, hf⟩ := ob hf
  refine rw_putR X dX1_clear_7 fl1_24 fw1_4 e7 rfl hP (fun H locs hP => ?_)
  cases hf
  exact rw_vret X dX1_clear_10 hP
theorem dX3_clear_0 : decode cX3_clear 0 = .ok (.aload_n 0, 1) := by decide +kernel
theorem dX3_clear_1 : decode cX3_clear 1 = .ok (.iconst 0, 1) := by decide +kernel
theorem dX3_clear_2 : decode cX3_clear 2 = .ok (.putfield 9, 3) := by decide +kernel
theorem dX3_clear_5 : decode cX3_clear 5 = .ok (.aload_n 0, 1) := by decide +kernel
theorem dX3_clear_6 : decode cX3_clear 6 = .ok (.iconst 0, 1) := by decide +kernel
theorem dX3_clear_7 : decode cX3_clear 7 = .ok (.putfield 15, 3) := by decide +kernel
theorem dX3_clear_10 : decode cX3_clear 10 = .ok (.aload_n 0, 1) := by decide +kernel
theorem dX3_clear_11 : decode cX3_clear 11 = .ok (.aconst_null, 1) := by decide +kernel
theorem dX3_clear_12 : decode cX3_clear 12 = .ok (.putfield 19, 3) := by decide +kernel
theorem dX3_clear_15 : decode cX3_clear 15 = .ok (.aload_n 0, 1) := by decide +kernel
theorem dX3_clear_16 : decode cX3_clear 16 = .ok (.iconst 0, 1) := by decide +kernel
theorem dX3_clear_17 : decode cX3_clear 17 = .ok (.putfield 23, 3) := by decide +kernel
theorem dX3_clear_20 : decode cX3_clear 20 = .ok (.aload_n 0, 1) := by decide +kernel
theorem dX3_clear_21 : decode cX3_clear 21 = .ok (.iconst 0, 1) := by decide +kernel
theorem dX3_clear_22 : decode cX3_clear 22 = .ok (.putfield 26, 3) := by decide +kernel
theorem dX3_clear_25 : decode cX3_clear 25 = .ok (.aload_n 0, 1) := by decide +kernel
theorem dX3_clear_26 : decode cX3_clear 26 = .ok (.iconst 0, 1) := by decide +kernel
theorem dX3_clear_27 : decode cX3_clear 27 = .ok (.putfield 29, 3) := by decide +kernel
theorem dX3_clear_30 : decode cX3_clear 30 = .ok (.aload_n 0, 1) := by decide +kernel
theorem dX3_clear_31 : decode cX3_clear 31 = .ok (.iconst 0, 1) := by decide +kernel
theorem dX3_clear_32 : decode cX3_clear 32 = .ok (.putfield 32, 3) := by decide +kernel
theorem dX3_clear_35 : decode cX3_clear 35 = .ok (.aload_n 0, 1) := by decide +kernel
theorem dX3_clear_36 : decode cX3_clear 36 = .ok (.iconst 0, 1) := by decide +kernel
theorem dX3_clear_37 : decode cX3_clear 37 = .ok (.putfield 35, 3) := by decide +kernel
theorem dX3_clear_40 : decode cX3_clear 40 = .ok (.aload_n 0, 1) := by decide +kernel
theorem dX3_clear_41 : decode cX3_clear 41 = .ok (.iconst 0, 1) := by decide +kernel
theorem dX3_clear_42 : decode cX3_clear 42 = .ok (.putfield 38, 3) := by decide +kernel
theorem dX3_clear_45 : decode cX3_clear 45 = .ok (.aload_n 0, 1) := by decide +kernel
theorem dX3_clear_46 : decode cX3_clear 46 = .ok (.iconst 0, 1) := by decide +kernel
theorem dX3_clear_47 : decode cX3_clear 47 = .ok (.putfield 41, 3) := by decide +kernel
theorem dX3_clear_50 : decode cX3_clear 50 = .ok (.return_, 1) := by decide +kernel
theorem pyX3_clear : PY yX3_clear 0 := ⟨by decide +kernel, by decide +kernel, by decide +kernel⟩
def fX3_clear (Y : LY) (S : HS) (l0 : Option Nat) : Option (HS) :=
  (pZ Y 3 300 l0 0 S).bind fun S2 =>
  (pI Y 3 301 l0 0 S2).bind fun S7 =>
  (pR Y 3 302 l0 none S7).bind fun S12 =>
  (pI Y 3 303 l0 0 S12).bind fun S17 =>
  (pI Y 3 304 l0 0 S17).bind fun S22 =>
  (pI Y 3 305 l0 0 S22).bind fun S27 =>
  (pI Y 3 306 l0 0 S27).bind fun S32 =>
  (pI Y 3 307 l0 0 S32).bind fun S37 =>
  (pI Y 3 308 l0 0 S37).bind fun S42 =>
  (pI Y 3 309 l0 0 S42).bind fun S47 =>
  some S47
set_option maxRecDepth 100000 in
set_option maxHeartbeats 4000000 in
theorem mX3_clear (l : Launch) {G : GG} {Y : LY} {S : HS} {l0 : Option Nat} {res : HS} (hf : fX3_clear Y S l0 = some res) : MM l yX3_clear cX3_clear 1 none 0 0 G Y S [va_rf l0] res none := by
  refine mm_of2 (plainFor_of_name (by decide +kernel)) (Nat.le_of_ble_eq_true rfl) (c1c (cr _) c1n) ?_
  intro p e R s m args below meth c X H locs ls hP hl
  have X : Cx p R s m args meth c RX3 cX3_clear 1 0 0 (fun q => q ∈ Y.1) G none := X
  have hx := X.1.1
  have hb := X.1.2.1
  have hl : LV ls 1 [(0, va_rf l0)] := hl
  unfold fX3_clear at hf
  refine rw_aload_n X dX3_clear_0 rfl (hl.at 0 rfl) ?_
  refine lv_iconst (v := 0) hx hb dX3_clear_1 (by decide) ?_
  obtain ⟨S2, e2, hf⟩ := ob hf
  refine rw_putZ X dX3_clear_2 fl3_9 fw3_0 e2 rfl hP (fun H locs hP => ?_)
  refine rw_aload_n X dX3_clear_5 rfl (hl.at 0 rfl) ?_
  refine lv_iconst (v := 0) hx hb dX3_clear_6 (by decide) ?_
  obtain ⟨S7, e7, hf⟩ := ob hf
  refine rw_putI X dX3_clear_7 fl3_15 fw3_1 e7 rfl hP (fun H locs hP => ?_)
  refine rw_aload_n X dX3_clear_10 rfl (hl.at 0 rfl) ?_
  refine lv_null hx hb dX3_clear_11 ?_
  refine W.eq (g2 := F0 m 12 ls (va_rf none :: (va_rf l0 :: []))) rfl ?_
  obtain ⟨S12, e12, hf⟩ := ob hf
  refine rw_putR X dX3_clear_12 fl3_19 fw3_2 e12 rfl hP (fun H locs hP => ?_)
  refine rw_aload_n X dX3_clear_15 rfl (hl.at 0 rfl) ?_
  refine lv_iconst (v := 0) hx hb dX3_clear_16 (by decide) ?_
  obtain ⟨S17, e17, hf⟩ := ob hf
  refine rw_putI X dX3_clear_17 fl3_23 fw3_3 e17 rfl hP (fun H locs hP => ?_)
  refine rw_aload_n X dX3_clear_20 rfl (hl.at 0 rfl) ?_
  refine lv_iconst (v := 0) hx hb dX3_clear_21 (by decide) ?_
  obtain ⟨S22, e22, hf⟩ := ob hf
  refine rw_putI X dX3_clear_22 fl3_26 fw3_4 e22 rfl hP (fun H locs hP => ?_)
  refine rw_aload_n X dX3_clear_25 rfl (hl.at 0 rfl) ?_
  refine lv_iconst (v := 0) hx hb dX3_clear_26 (by decide) ?_
  obtain ⟨S27, e27, hf⟩ := ob hf
  refine rw_putI X dX3_clear_27 fl3_29 fw3_5 e27 rfl hP (fun H locs hP => ?_)
  refine rw_aload_n X dX3_clear_30 rfl (hl.at 0 rfl) ?_
  refine lv_iconst (v := 0) hx hb dX3_clear_31 (by decide) ?_
  obtain ⟨S32, e32, hf⟩ := ob hf
  refine rw_putI X dX3_clear_32 fl3_32 fw3_6 e32 rfl hP (fun H locs hP => ?_)
  refine rw_aload_n X dX3_clear_35 rfl (hl.at 0 rfl) ?_
  refine lv_iconst (v := 0) hx hb dX3_clear_36 (by decide) ?_
  obtain ⟨S37, e37, hf⟩ := ob hf
  refine rw_putI X dX3_clear_37 fl3_35 fw3_7 e37 rfl hP (fun H locs hP => ?_)
  refine rw_aload_n X dX3_clear_40 rfl (hl.at 0 rfl) ?_
  refine lv_iconst (v := 0) hx hb dX3_clear_41 (by decide) ?_
  obtain ⟨S42, e42, hf⟩ := ob hf
  refine rw_putI X dX3_clear_42 fl3_38 fw3_8 e42 rfl hP (fun H locs hP => ?_)
  refine rw_aload_n X dX3_clear_45 rfl (hl.at 0 rfl) ?_
  refine lv_iconst (v := 0) hx hb dX3_clear_46 (by decide) ?_
  obtain ⟨S47, e47, hf⟩ := ob hf
  refine rw_putI X dX3_clear_47 fl3_41 fw3_9 e47 rfl hP (fun H locs hP => ?_)
  cases hf
  exact rw_vret X dX3_clear_50 hP
theorem dX3_copyFrom_0 : decode cX3_copyFrom 0 = .ok (.aload_n 0, 1) := by decide +kernel
theorem dX3_copyFrom_1 : decode cX3_copyFrom 1 = .ok (.aload_n 1, 1) := by decide +kernel
theorem dX3_copyFrom_2 : decode cX3_copyFrom 2 = .ok (.getfield 9, 3) := by decide +kernel
theorem dX3_copyFrom_5 : decode cX3_copyFrom 5 = .ok (.putfield 9, 3) := by decide +kernel
theorem dX3_copyFrom_8 : decode cX3_copyFrom 8 = .ok (.aload_n 0, 1) := by decide +kernel
theorem dX3_copyFrom_9 : decode cX3_copyFrom 9 = .ok (.aload_n 1, 1) := by decide +kernel
theorem dX3_copyFrom_10 : decode cX3_copyFrom 10 = .ok (.getfield 15, 3) := by decide +kernel
theorem dX3_copyFrom_13 : decode cX3_copyFrom 13 = .ok (.putfield 15, 3) := by decide +kernel
theorem dX3_copyFrom_16 : decode cX3_copyFrom 16 = .ok (.aload_n 0, 1) := by decide +kernel
theorem dX3_copyFrom_17 : decode cX3_copyFrom 17 = .ok (.aload_n 1, 1) := by decide +kernel
theorem dX3_copyFrom_18 : decode cX3_copyFrom 18 = .ok (.getfield 19, 3) := by decide +kernel
theorem dX3_copyFrom_21 : decode cX3_copyFrom 21 = .ok (.putfield 19, 3) := by decide +kernel
theorem dX3_copyFrom_24 : decode cX3_copyFrom 24 = .ok (.aload_n 0, 1) := by decide +kernel
theorem dX3_copyFrom_25 : decode cX3_copyFrom 25 = .ok (.aload_n 1, 1) := by decide +kernel
theorem dX3_copyFrom_26 : decode cX3_copyFrom 26 = .ok (.getfield 23, 3) := by decide +kernel
theorem dX3_copyFrom_29 : decode cX3_copyFrom 29 = .ok (.putfield 23, 3) := by decide +kernel
theorem dX3_copyFrom_32 : decode cX3_copyFrom 32 = .ok (.aload_n 0, 1) := by decide +kernel
theorem dX3_copyFrom_33 : decode cX3_copyFrom 33 = .ok (.aload_n 1, 1) := by decide +kernel
theorem dX3_copyFrom_34 : decode cX3_copyFrom 34 = .ok (.getfield 26, 3) := by decide +kernel
theorem dX3_copyFrom_37 : decode cX3_copyFrom 37 = .ok (.putfield 26, 3) := by decide +kernel
theorem dX3_copyFrom_40 : decode cX3_copyFrom 40 = .ok (.aload_n 0, 1) := by decide +kernel
theorem dX3_copyFrom_41 : decode cX3_copyFrom 41 = .ok (.aload_n 1, 1) := by decide +kernel
theorem dX3_copyFrom_42 : decode cX3_copyFrom 42 = .ok (.getfield 29, 3) := by decide +kernel
theorem dX3_copyFrom_45 : decode cX3_copyFrom 45 = .ok (.putfield 29, 3) := by decide +kernel
theorem dX3_copyFrom_48 : decode cX3_copyFrom 48 = .ok (.aload_n 0, 1) := by decide +kernel
theorem dX3_copyFrom_49 : decode cX3_copyFrom 49 = .ok (.aload_n 1, 1) := by decide +kernel
theorem dX3_copyFrom_50 : decode cX3_copyFrom 50 = .ok (.getfield 32, 3) := by decide +kernel
theorem dX3_copyFrom_53 : decode cX3_copyFrom 53 = .ok (.putfield 32, 3) := by decide +kernel
theorem dX3_copyFrom_56 : decode cX3_copyFrom 56 = .ok (.aload_n 0, 1) := by decide +kernel
theorem dX3_copyFrom_57 : decode cX3_copyFrom 57 = .ok (.aload_n 1, 1) := by decide +kernel
theorem dX3_copyFrom_58 : decode cX3_copyFrom 58 = .ok (.getfield 35, 3) := by decide +kernel
theorem dX3_copyFrom_61 : decode cX3_copyFrom 61 = .ok (.putfield 35, 3) := by decide +kernel
theorem dX3_copyFrom_64 : decode cX3_copyFrom 64 = .ok (.aload_n 0, 1) := by decide +kernel
theorem dX3_copyFrom_65 : decode cX3_copyFrom 65 = .ok (.aload_n 1, 1) := by decide +kernel
theorem dX3_copyFrom_66 : decode cX3_copyFrom 66 = .ok (.getfield 38, 3) := by decide +kernel
theorem dX3_copyFrom_69 : decode cX3_copyFrom 69 = .ok (.putfield 38, 3) := by decide +kernel
theorem dX3_copyFrom_72 : decode cX3_copyFrom 72 = .ok (.aload_n 0, 1) := by decide +kernel
theorem dX3_copyFrom_73 : decode cX3_copyFrom 73 = .ok (.aload_n 1, 1) := by decide +kernel
theorem dX3_copyFrom_74 : decode cX3_copyFrom 74 = .ok (.getfield 41, 3) := by decide +kernel
theorem dX3_copyFrom_77 : decode cX3_copyFrom 77 = .ok (.putfield 41, 3) := by decide +kernel
theorem dX3_copyFrom_80 : decode cX3_copyFrom 80 = .ok (.return_, 1) := by decide +kernel
theorem pyX3_copyFrom : PY yX3_copyFrom 1 := ⟨by decide +kernel, by decide +kernel, by decide +kernel⟩
def fX3_copyFrom (Y : LY) (S : HS) (l0 : Option Nat) (l1 : Option Nat) : Option (HS) :=
  (gI Y 3 300 l1 S).bind fun v2 =>
  (pZ Y 3 300 l0 v2 S).bind fun S5 =>
  (gI Y 3 301 l1 S5).bind fun v10 =>
  (pI Y 3 301 l0 v10 S5).bind fun S13 =>
  (gR Y 3 302 l1 S13).bind fun v18 =>
  (pR Y 3 302 l0 v18 S13).bind fun S21 =>
  (gI Y 3 303 l1 S21).bind fun v26 =>
  (pI Y 3 303 l0 v26 S21).bind fun S29 =>
  (gI Y 3 304 l1 S29).bind fun v34 =>
  (pI Y 3 304 l0 v34 S29).bind fun S37 =>
  (gI Y 3 305 l1 S37).bind fun v42 =>
  (pI Y 3 305 l0 v42 S37).bind fun S45 =>
  (gI Y 3 306 l1 S45).bind fun v50 =>
  (pI Y 3 306 l0 v50 S45).bind fun S53 =>
  (gI Y 3 307 l1 S53).bind fun v58 =>
  (pI Y 3 307 l0 v58 S53).bind fun S61 =>
  (gI Y 3 308 l1 S61).bind fun v66 =>
  (pI Y 3 308 l0 v66 S61).bind fun S69 =>
  (gI Y 3 309 l1 S69).bind fun v74 =>
  (pI Y 3 309 l0 v74 S69).bind fun S77 =>
  some S77
set_option maxRecDepth 100000 in
set_option maxHeartbeats 4000000 in
theorem mX3_copyFrom (l : Launch) {G : GG} {Y : LY} {S : HS} {l0 : Option Nat} {l1 : Option Nat} {res : HS} (hf : fX3_copyFrom Y S l0 l1 = some res) : MM l yX3_copyFrom cX3_copyFrom 2 none 0 0 G Y S [va_rf l0, va_rf l1] res none := by
  refine mm_of2 (plainFor_of_name (by decide +kernel)) (Nat.le_of_ble_eq_true rfl) (c1c (cr _) (c1c (cr _) c1n)) ?_
  intro p e R s m args below meth c X H locs ls hP hl
  have X : Cx p R s m args meth c RX3 cX3_copyFrom 2 0 0 (fun q => q ∈ Y.1) G none := X
  have hx := X.1.1
  have hb := X.1.2.1
  have hl : LV ls 2 [(0, va_rf l0), (1, va_rf l1)] := hl
  unfold fX3_copyFrom at hf
  refine rw_aload_n X dX3_copyFrom_0 rfl (hl.at 0 rfl) ?_
  refine rw_aload_n X dX3_copyFrom_1 rfl (hl.at 1 rfl) ?_
  obtain ⟨v2, e2, hf⟩ := ob hf
  refine rw_getI X dX3_copyFrom_2 fl3_9 e2 rfl hP ?_
  obtain ⟨S5, e5, hf⟩ := ob hf
  refine rw_putZ X dX3_copyFrom_5 fl3_9 fw3_0 e5 rfl hP (fun H locs hP => ?_)
  refine rw_aload_n X dX3_copyFrom_8 rfl (hl.at 0 rfl) ?_
  refine rw_aload_n X dX3_copyFrom_9 rfl (hl.at 1 rfl) ?_
  obtain ⟨v10, e10, hf⟩ := ob hf
  refine rw_getI X dX3_copyFrom_10 fl3_15 e10 rfl hP ?_
  obtain ⟨S13, e13, hf⟩ := ob hf
  refine rw_putI X dX3_copyFrom_13 fl3_15 fw3_1 e13 rfl hP (fun H locs hP => ?_)
  refine rw_aload_n X dX3_copyFrom_16 rfl (hl.at 0 rfl) ?_
  refine rw_aload_n X dX3_copyFrom_17 rfl (hl.at 1 rfl) ?_
  obtain ⟨v18, e18, hf⟩ := ob hf
  refine rw_getR X dX3_copyFrom_18 fl3_19 e18 rfl hP ?_
  obtain ⟨S21, e21, hf⟩ := ob hf
  refine rw_putR X dX3_copyFrom_21 fl3_19 fw3_2 e21 rfl hP (fun H locs hP => ?_)
  refine rw_aload_n X dX3_copyFrom_24 rfl (hl.at 0 rfl) ?_
  refine rw_aload_n X dX3_copyFrom_25 rfl (hl.at 1 rfl) ?_
  obtain ⟨v26, e26, hf⟩ := ob hf
  refine rw_getI X dX3_copyFrom_26 fl3_23 e26 rfl hP ?_
  obtain ⟨S29, e29, hf⟩ := ob hf
  refine rw_putI X dX3_copyFrom_29 fl3_23 fw3_3 e29 rfl hP (fun H locs hP => ?_)
  refine rw_aload_n X dX3_copyFrom_32 rfl (hl.at 0 rfl) ?_
  refine rw_aload_n X dX3_copyFrom_33 rfl (hl.at 1 rfl) ?_
  obtain ⟨v34, e34, hf⟩ := ob hf
  refine rw_getI X dX3_copyFrom_34 fl3_26 e34 rfl hP ?_
  obtain ⟨S37, e37, hf⟩ := ob hf
  refine rw_putI X dX3_copyFrom_37 fl3_26 fw3_4 e37 rfl hP (fun H locs hP => ?_)
  refine rw_aload_n X dX3_copyFrom_40 rfl (hl.at 0 rfl) ?_
  refine rw_aload_n X dX3_copyFrom_41 rfl (hl.at 1 rfl) ?_
  obtain ⟨v42, e42, hf⟩ := ob hf
  refine rw_getI X dX3_copyFrom_42 fl3_29 e42 rfl hP ?_
  obtain ⟨S45, e45, hf⟩ := ob hf
  refine rw_putI X dX3_copyFrom_45 fl3_29 fw3_5 e45 rfl hP (fun H locs hP => ?_)
  refine rw_aload_n X dX3_copyFrom_48 rfl (hl.at 0 rfl) ?_
  refine rw_aload_n X dX3_copyFrom_49 rfl (hl.at 1 rfl) ?_
  obtain ⟨v50, e50, hf⟩ := ob hf
  refine rw_getI X dX3_copyFrom_50 fl3_32 e50 rfl hP ?_
  obtain ⟨S53, e53, hf⟩ := ob hf
  refine rw_putI X dX3_copyFrom_53 fl3_32 fw3_6 e53 rfl hP (fun H locs hP => ?_)
  refine rw_aload_n X dX3_copyFrom_56 rfl (hl.at 0 rfl) ?_
  refine rw_aload_n X dX3_copyFrom_57 rfl (hl.at 1 rfl) ?_
  obtain ⟨v58, e58, hf⟩ := ob hf
  refine rw_getI X dX3_copyFrom_58 fl3_35 e58 rfl hP ?_
  obtain ⟨S61, e61, hf⟩ := ob hf
  refine rw_putI X dX3_copyFrom_61 fl3_35 fw3_7 e61 rfl hP (fun H locs hP => ?_)
  refine rw_aload_n X dX3_copyFrom_64 rfl (hl.at 0 rfl) ?_
  refine rw_aload_n X dX3_copyFrom_65 rfl (hl.at 1 rfl) ?_
  obtain ⟨v66, e66, hf⟩ := ob hf
  refine rw_getI X dX3_copyFrom_66 fl3_38 e66 rfl hP ?_
  obtain ⟨S69, e69, hf⟩ := ob hf
  refine rw_putI X dX3_copyFrom_69 fl3_38 fw3_8 e69 rfl hP (fun H locs hP => ?_)
  refine rw_aload_n X dX3_copyFrom_72 rfl (hl.at 0 rfl) ?_
  refine rw_aload_n X dX3_copyFrom_73 rfl (hl.at 1 rfl) ?_
  obtain ⟨v74, e74, hf⟩ := ob hf
  refine rw_getI X dX3_copyFrom_74 fl3_41 e74 rfl hP ?_
  obtain ⟨S77, e77, hf⟩ := ob hf
  refine rw_putI X dX3_copyFrom_77 fl3_41 fw3_9 e77 rfl hP (fun H locs hP => ?_)
  cases hf
  exact rw_vret X dX3_copyFrom_80 hP
theorem dX7_clear_0 : decode cX7_clear 0 = .ok (.aload_n 0, 1) := by decide +kernel
theorem dX7_clear_1 : decode cX7_clear 1 = .ok (.iconst 0, 1) := by decide +kernel
theorem dX7_clear_2 : decode cX7_clear 2 = .ok (.putfield 15, 3) := by decide +kernel
theorem dX7_clear_5 : decode cX7_clear 5 = .ok (.return_, 1) := by decide +kernel
theorem pyX7_clear : PY yX7_clear 0 := ⟨by decide +kernel, by decide +kernel, by decide +kernel⟩
def fX7_clear (Y : LY) (S : HS) (l0 : Option Nat) : Option (HS) :=
  (pI Y 7 701 l0 0 S).bind fun S2 =>
  some S2
set_option maxRecDepth 100000 in
set_option maxHeartbeats 4000000 in
theorem mX7_clear (l : Launch) {G : GG} {Y : LY} {S : HS} {l0 : Option Nat} {res : HS} (hf : fX7_clear Y S l0 = some res) : MM l yX7_clear cX7_clear 1 none 0 0 G Y S [va_rf l0] res none := by
  refine mm_of2 (plainFor_of_name (by decide +kernel)) (Nat.le_of_ble_eq_true rfl) (c1c (cr _) c1n) ?_
  intro p e R s m args below meth c X H locs ls hP hl
  have X : Cx p R s m args meth c RX7 cX7_clear 1 0 0 (fun q => q ∈ Y.1) G none := X
  have hx := X.1.1
  have hb := X.1.2.1
  have hl : LV ls 1 [(0, va_rf l0)] := hl
  unfold fX7_clear at hf
  refine rw_aload_n X dX7_clear_0 rfl (hl.at 0 rfl) ?_
  refine lv_iconst (v := 0) hx hb dX7_clear_1 (by decide) ?_
  obtain ⟨S2, e2, hf⟩ := ob hf
  refine rw_putI X dX7_clear_2 fl7_15 fw7_1 e2 rfl hP (fun H locs hP => ?_)
  cases hf
  exact rw_vret X dX7_clear_5 hP
theorem dX7_add_0 : decode cX7_add 0 = .ok (.aload_n 0, 1) := by decide +kernel
theorem dX7_add_1 : decode cX7_add 1 = .ok (.getfield 15, 3) := by decide +kernel
theorem dX7_add_4 : decode cX7_add 4 = .ok (.aload_n 0, 1) := by decide +kernel
theorem dX7_add_5 : decode cX7_add 5 = .ok (.getfield 9, 3) := by decide +kernel
theorem dX7_add_8 : decode cX7_add 8 = .ok (.arraylength, 1) := by decide +kernel
theorem dX7_add_9 : decode cX7_add 9 = .ok (.if_icmp .ge 23, 3) := by decide +kernel
theorem dX7_add_12 : decode cX7_add 12 = .ok (.aload_n 0, 1) := by decide +kernel
theorem dX7_add_13 : decode cX7_add 13 = .ok (.getfield 9, 3) := by decide +kernel
theorem dX7_add_16 : decode cX7_add 16 = .ok (.aload_n 0, 1) := by decide +kernel
theorem dX7_add_17 : decode cX7_add 17 = .ok (.getfield 15, 3) := by decide +kernel
theorem dX7_add_20 : decode cX7_add 20 = .ok (.iload_n 1, 1) := by decide +kernel
theorem dX7_add_21 : decode cX7_add 21 = .ok (.castore, 1) := by decide +kernel
theorem dX7_add_22 : decode cX7_add 22 = .ok (.aload_n 0, 1) := by decide +kernel
theorem dX7_add_23 : decode cX7_add 23 = .ok (.dup, 1) := by decide +kernel
theorem dX7_add_24 : decode cX7_add 24 = .ok (.getfield 15, 3) := by decide +kernel
theorem dX7_add_27 : decode cX7_add 27 = .ok (.iconst 1, 1) := by decide +kernel
theorem dX7_add_28 : decode cX7_add 28 = .ok (.iadd, 1) := by decide +kernel
theorem dX7_add_29 : decode cX7_add 29 = .ok (.putfield 15, 3) := by decide +kernel
theorem dX7_add_32 : decode cX7_add 32 = .ok (.return_, 1) := by decide +kernel
theorem pyX7_add : PY yX7_add 1 := ⟨by decide +kernel, by decide +kernel, by decide +kernel⟩
def fX7_add (Y : LY) (S : HS) (l0 : Option Nat) (l1 : Int32) : Option (HS) :=
  (gI Y 7 701 l0 S).bind fun v1 =>
  (gR Y 7 700 l0 S).bind fun v5 =>
  (aL Y 13 v5).bind fun v8 =>
  if v8 ≤ v1 then
    some S
  else
    (gR Y 7 700 l0 S).bind fun v13 =>
    (gI Y 7 701 l0 S).bind fun v17 =>
    (pA Y 13 v13 v17 (vp_nar .char l1) S).bind fun S21 =>
    (gI Y 7 701 l0 S21).bind fun v24 =>
    (pI Y 7 701 l0 (v24 + 1) S21).bind fun S29 =>
    some S29
set_option maxRecDepth 100000 in
set_option maxHeartbeats 4000000 in
theorem mX7_add (l : Launch) {G : GG} {Y : LY} {S : HS} {l0 : Option Nat} {l1 : Int32} {res : HS} (hf : fX7_add Y S l0 l1 = some res) : MM l yX7_add cX7_add 2 none 0 0 G Y S [va_rf l0, .int l1] res none := by
  refine mm_of2 (plainFor_of_name (by decide +kernel)) (Nat.le_of_ble_eq_true rfl) (c1c (cr _) (c1c (ci _) c1n)) ?_
  intro p e R s m args below meth c X H locs ls hP hl
  have X : Cx p R s m args meth c RX7 cX7_add 2 0 0 (fun q => q ∈ Y.1) G none := X
  have hx := X.1.1
  have hb := X.1.2.1
  have hl : LV ls 2 [(0, va_rf l0), (1, .int l1)] := hl
  unfold fX7_add at hf
  refine rw_aload_n X dX7_add_0 rfl (hl.at 0 rfl) ?_
  obtain ⟨v1, e1, hf⟩ := ob hf
  refine rw_getI X dX7_add_1 fl7_15 e1 rfl hP ?_
  refine rw_aload_n X dX7_add_4 rfl (hl.at 0 rfl) ?_
  obtain ⟨v5, e5, hf⟩ := ob hf
  refine rw_getR X dX7_add_5 fl7_9 e5 rfl hP ?_
  obtain ⟨v8, e8, hf⟩ := ob hf
  refine rw_alen X (by decide) dX7_add_8 e8 hP ?_
  refine lv_icmp_ge hx hb (tgt := 32) dX7_add_9 (by decide) (fun c9 => ?_) (fun c9 => ?_)
  · have hf := ifp hf c9
    cases hf
    exact rw_vret X dX7_add_32 hP
  · have hf := ifn hf c9
    refine rw_aload_n X dX7_add_12 rfl (hl.at 0 rfl) ?_
    obtain ⟨v13, e13, hf⟩ := ob hf
    refine rw_getR X dX7_add_13 fl7_9 e13 rfl hP ?_
    refine rw_aload_n X dX7_add_16 rfl (hl.at 0 rfl) ?_
    obtain ⟨v17, e17, hf⟩ := ob hf
    refine rw_getI X dX7_add_17 fl7_15 e17 rfl hP ?_
    refine lv_iload_n hx hb dX7_add_20 rfl (hl.at 1 rfl) ?_
    obtain ⟨S21, e21, hf⟩ := ob hf
    refine rw_cast X dX7_add_21 e21 hP (fun H locs hP => ?_)
    refine rw_aload_n X dX7_add_22 rfl (hl.at 0 rfl) ?_
    refine lv_dup hx hb dX7_add_23 (cr _) ?_
    obtain ⟨v24, e24, hf⟩ := ob hf
    refine rw_getI X dX7_add_24 fl7_15 e24 rfl hP ?_
    refine lv_iconst (v := 1) hx hb dX7_add_27 (by decide) ?_
    refine lv_iadd hx hb dX7_add_28 ?_
    obtain ⟨S29, e29, hf⟩ := ob hf
    refine rw_putI X dX7_add_29 fl7_15 fw7_1 e29 rfl hP (fun H locs hP => ?_)
    cases hf
    exact rw_vret X dX7_add_32 hP
theorem dX7_codeAt_0 : decode cX7_codeAt 0 = .ok (.iload_n 1, 1) := by decide +kernel
theorem dX7_codeAt_1 : decode cX7_codeAt 1 = .ok (.ifCond .lt 20, 3) := by decide +kernel
theorem dX7_codeAt_4 : decode cX7_codeAt 4 = .ok (.iload_n 1, 1) := by decide +kernel
theorem dX7_codeAt_5 : decode cX7_codeAt 5 = .ok (.aload_n 0, 1) := by decide +kernel
theorem dX7_codeAt_6 : decode cX7_codeAt 6 = .ok (.getfield 15, 3) := by decide +kernel
theorem dX7_codeAt_9 : decode cX7_codeAt 9 = .ok (.if_icmp .ge 12, 3) := by decide +kernel
theorem dX7_codeAt_12 : decode cX7_codeAt 12 = .ok (.iload_n 1, 1) := by decide +kernel
theorem dX7_codeAt_13 : decode cX7_codeAt 13 = .ok (.aload_n 0, 1) := by decide +kernel
theorem dX7_codeAt_14 : decode cX7_codeAt 14 = .ok (.getfield 9, 3) := by decide +kernel
theorem dX7_codeAt_17 : decode cX7_codeAt 17 = .ok (.arraylength, 1) := by decide +kernel
theorem dX7_codeAt_18 : decode cX7_codeAt 18 = .ok (.if_icmp .lt 7, 3) := by decide +kernel
theorem dX7_codeAt_21 : decode cX7_codeAt 21 = .ok (.iconst (-1), 1) := by decide +kernel
theorem dX7_codeAt_22 : decode cX7_codeAt 22 = .ok (.goto 9, 3) := by decide +kernel
theorem dX7_codeAt_25 : decode cX7_codeAt 25 = .ok (.aload_n 0, 1) := by decide +kernel
theorem dX7_codeAt_26 : decode cX7_codeAt 26 = .ok (.getfield 9, 3) := by decide +kernel
theorem dX7_codeAt_29 : decode cX7_codeAt 29 = .ok (.iload_n 1, 1) := by decide +kernel
theorem dX7_codeAt_30 : decode cX7_codeAt 30 = .ok (.caload, 1) := by decide +kernel
theorem dX7_codeAt_31 : decode cX7_codeAt 31 = .ok (.ireturn, 1) := by decide +kernel
theorem pyX7_codeAt : PY yX7_codeAt 1 := ⟨by decide +kernel, by decide +kernel, by decide +kernel⟩
def fX7_codeAt (Y : LY) (S : HS) (l0 : Option Nat) (l1 : Int32) : Option (Int32) :=
  if l1 < 0 then
    some (-1)
  else
    (gI Y 7 701 l0 S).bind fun v6 =>
    if v6 ≤ l1 then
      some (-1)
    else
      (gR Y 7 700 l0 S).bind fun v14 =>
      (aL Y 13 v14).bind fun v17 =>
      if l1 < v17 then
        (gR Y 7 700 l0 S).bind fun v26 =>
        (gA Y 13 v26 l1 S).bind fun v30 =>
        some v30
      else
        some (-1)
set_option maxRecDepth 100000 in
set_option maxHeartbeats 4000000 in
theorem mX7_codeAt (l : Launch) {G : GG} {Y : LY} {S : HS} {l0 : Option Nat} {l1 : Int32} {res : Int32} (hf : fX7_codeAt Y S l0 l1 = some res) : MM l yX7_codeAt cX7_codeAt 2 (some .int) 0 0 G Y S [va_rf l0, .int l1] S (some (.int res)) := by
  refine mm_of2 (plainFor_of_name (by decide +kernel)) (Nat.le_of_ble_eq_true rfl) (c1c (cr _) (c1c (ci _) c1n)) ?_
  intro p e R s m args below meth c X H locs ls hP hl
  have X : Cx p R s m args meth c RX7 cX7_codeAt 2 0 0 (fun q => q ∈ Y.1) G (some .int) := X
  have hx := X.1.1
  have hb := X.1.2.1
  have hl : LV ls 2 [(0, va_rf l0), (1, .int l1)] := hl
  unfold fX7_codeAt at hf
  refine lv_iload_n hx hb dX7_codeAt_0 rfl (hl.at 1 rfl) ?_
  refine lv_if_lt hx hb (tgt := 21) dX7_codeAt_1 (by decide) (fun c1 => ?_) (fun c1 => ?_)
  · have hf := ifp hf c1
    refine lv_iconst (v := (-1)) hx hb dX7_codeAt_21 (by decide) ?_
    refine lv_goto (tgt := 31) hx hb dX7_codeAt_22 (by decide) ?_
    cases hf
    exact rw_iret X dX7_codeAt_31 hP
  · have hf := ifn hf c1
    refine lv_iload_n hx hb dX7_codeAt_4 rfl (hl.at 1 rfl) ?_
    refine rw_aload_n X dX7_codeAt_5 rfl (hl.at 0 rfl) ?_
    obtain ⟨v6, e6, hf⟩ := ob hf
    refine rw_getI X dX7_codeAt_6 fl7_15 e6 rfl hP ?_
    refine lv_icmp_ge hx hb (tgt := 21) dX7_codeAt_9 (by decide) (fun c9 => ?_) (fun c9 => ?_)
    · have hf := ifp hf c9
      refine lv_iconst (v := (-1)) hx hb dX7_codeAt_21 (by decide) ?_
      refine lv_goto (tgt := 31) hx hb dX7_codeAt_22 (by decide) ?_
      cases hf
      exact rw_iret X dX7_codeAt_31 hP
    · have hf := ifn hf c9
      refine lv_iload_n hx hb dX7_codeAt_12 rfl (hl.at 1 rfl) ?_
      refine rw_aload_n X dX7_codeAt_13 rfl (hl.at 0 rfl) ?_
      obtain ⟨v14, e14, hf⟩ := ob hf
      refine rw_getR X dX7_codeAt_14 fl7_9 e14 rfl hP ?_
      obtain ⟨v17, e17, hf⟩ := ob hf
      refine rw_alen X (by decide) dX7_codeAt_17 e17 hP ?_
      refine lv_icmp_lt hx hb (tgt := 25) dX7_codeAt_18 (by decide) (fun c18 => ?_) (fun c18 => ?_)
      · have hf := ifp hf c18
        refine rw_aload_n X dX7_codeAt_25 rfl (hl.at 0 rfl) ?_
        obtain ⟨v26, e26, hf⟩ := ob hf
        refine rw_getR X dX7_codeAt_26 fl7_9 e26 rfl hP ?_
        refine lv_iload_n hx hb dX7_codeAt_29 rfl (hl.at 1 rfl) ?_
        obtain ⟨v30, e30, hf⟩ := ob hf
        refine rw_cald X dX7_codeAt_30 e30 hP ?_
        cases hf
        exact rw_iret X dX7_codeAt_31 hP
      · have hf := ifn hf c18
        refine lv_iconst (v := (-1)) hx hb dX7_codeAt_21 (by decide) ?_
        refine lv_goto (tgt := 31) hx hb dX7_codeAt_22 (by decide) ?_
        cases hf
        exact rw_iret X dX7_codeAt_31 hP
end
section
/-! printed by wip/whole/gen/gen_parts.py: 11.node -/
theorem dX4_reset_0 : decode cX4_reset 0 = .ok (.aload_n 0, 1) := by decide +kernel
theorem dX4_reset_1 : decode cX4_reset 1 = .ok (.iload_n 1, 1) := by decide +kernel
theorem dX4_reset_2 : decode cX4_reset 2 = .ok (.putfield 28, 3) := by decide +kernel
theorem dX4_reset_5 : decode cX4_reset 5 = .ok (.aload_n 0, 1) := by decide +kernel
theorem dX4_reset_6 : decode cX4_reset 6 = .ok (.iconst 0, 1) := by decide +kernel
theorem dX4_reset_7 : decode cX4_reset 7 = .ok (.putfield 32, 3) := by decide +kernel
theorem dX4_reset_10 : decode cX4_reset 10 = .ok (.aload_n 0, 1) := by decide +kernel
theorem dX4_reset_11 : decode cX4_reset 11 = .ok (.aload_n 2, 1) := by decide +kernel
theorem dX4_reset_12 : decode cX4_reset 12 = .ok (.ifnonnull 7, 3) := by decide +kernel
theorem dX4_reset_15 : decode cX4_reset 15 = .ok (.iconst 1, 1) := by decide +kernel
theorem dX4_reset_16 : decode cX4_reset 16 = .ok (.goto 9, 3) := by decide +kernel
theorem dX4_reset_19 : decode cX4_reset 19 = .ok (.aload_n 2, 1) := by decide +kernel
theorem dX4_reset_20 : decode cX4_reset 20 = .ok (.getfield 35, 3) := by decide +kernel
theorem dX4_reset_23 : decode cX4_reset 23 = .ok (.iconst 1, 1) := by decide +kernel
theorem dX4_reset_24 : decode cX4_reset 24 = .ok (.iadd, 1) := by decide +kernel
theorem dX4_reset_25 : decode cX4_reset 25 = .ok (.putfield 35, 3) := by decide +kernel
theorem dX4_reset_28 : decode cX4_reset 28 = .ok (.aload_n 0, 1) := by decide +kernel
theorem dX4_reset_29 : decode cX4_reset 29 = .ok (.iconst 0, 1) := by decide +kernel
theorem dX4_reset_30 : decode cX4_reset 30 = .ok (.putfield 38, 3) := by decide +kernel
theorem dX4_reset_33 : decode cX4_reset 33 = .ok (.aload_n 0, 1) := by decide +kernel
theorem dX4_reset_34 : decode cX4_reset 34 = .ok (.aload_n 3, 1) := by decide +kernel
theorem dX4_reset_35 : decode cX4_reset 35 = .ok (.putfield 41, 3) := by decide +kernel
theorem dX4_reset_38 : decode cX4_reset 38 = .ok (.aload_n 0, 1) := by decide +kernel
theorem dX4_reset_39 : decode cX4_reset 39 = .ok (.aload_n 2, 1) := by decide +kernel
theorem dX4_reset_40 : decode cX4_reset 40 = .ok (.putfield 45, 3) := by decide +kernel
theorem dX4_reset_43 : decode cX4_reset 43 = .ok (.aload_n 0, 1) := by decide +kernel
theorem dX4_reset_44 : decode cX4_reset 44 = .ok (.aconst_null, 1) := by decide +kernel
theorem dX4_reset_45 : decode cX4_reset 45 = .ok (.putfield 48, 3) := by decide +kernel
theorem dX4_reset_48 : decode cX4_reset 48 = .ok (.aload_n 0, 1) := by decide +kernel
theorem dX4_reset_49 : decode cX4_reset 49 = .ok (.aconst_null, 1) := by decide +kernel
theorem dX4_reset_50 : decode cX4_reset 50 = .ok (.putfield 51, 3) := by decide +kernel
theorem dX4_reset_53 : decode cX4_reset 53 = .ok (.aload_n 0, 1) := by decide +kernel
theorem dX4_reset_54 : decode cX4_reset 54 = .ok (.aconst_null, 1) := by decide +kernel
theorem dX4_reset_55 : decode cX4_reset 55 = .ok (.putfield 54, 3) := by decide +kernel
theorem dX4_reset_58 : decode cX4_reset 58 = .ok (.aload_n 0, 1) := by decide +kernel
theorem dX4_reset_59 : decode cX4_reset 59 = .ok (.aload_n 0, 1) := by decide +kernel
theorem dX4_reset_60 : decode cX4_reset 60 = .ok (.putfield 57, 3) := by decide +kernel
theorem dX4_reset_63 : decode cX4_reset 63 = .ok (.aload_n 0, 1) := by decide +kernel
theorem dX4_reset_64 : decode cX4_reset 64 = .ok (.getfield 12, 3) := by decide +kernel
theorem dX4_reset_67 : decode cX4_reset 67 = .ok (.invokevirtual 63, 3) := by decide +kernel
theorem dX4_reset_70 : decode cX4_reset 70 = .ok (.aload_n 0, 1) := by decide +kernel
theorem dX4_reset_71 : decode cX4_reset 71 = .ok (.getfield 18, 3) := by decide +kernel
theorem dX4_reset_74 : decode cX4_reset 74 = .ok (.invokevirtual 63, 3) := by decide +kernel
theorem dX4_reset_77 : decode cX4_reset 77 = .ok (.aload_n 0, 1) := by decide +kernel
theorem dX4_reset_78 : decode cX4_reset 78 = .ok (.getfield 24, 3) := by decide +kernel
theorem dX4_reset_81 : decode cX4_reset 81 = .ok (.invokevirtual 66, 3) := by decide +kernel
theorem dX4_reset_84 : decode cX4_reset 84 = .ok (.return_, 1) := by decide +kernel
theorem pyX4_reset : PY yX4_reset 3 := ⟨by decide +kernel, by decide +kernel, by decide +kernel⟩
def fX4_reset_25 (Y : LY) (S : HS) (l0 : Option Nat) (l2 : Option Nat) (l3 : Option Nat) (s0 : Option Nat) (s1 : Int32) : Option (HS) :=
  (pI Y 4 406 s0 s1 S).bind fun S25 =>
  (pI Y 4 407 l0 0 S25).bind fun S30 =>
  (pR Y 4 408 l0 l3 S30).bind fun S35 =>
  (pR Y 4 409 l0 l2 S35).bind fun S40 =>
  (pR Y 4 410 l0 none S40).bind fun S45 =>
  (pR Y 4 411 l0 none S45).bind fun S50 =>
  (pR Y 4 412 l0 none S50).bind fun S55 =>
  (pR Y 4 413 l0 l0 S55).bind fun S60 =>
  (gR Y 4 401 l0 S60).bind fun v64 =>
  (rcv Y 1 v64).bind fun _ =>
  (fX1_clear Y S60 v64 ).bind fun S67 =>
  (gR Y 4 402 l0 S67).bind fun v71 =>
  (rcv Y 1 v71).bind fun _ =>
  (fX1_clear Y S67 v71 ).bind fun S74 =>
  (gR Y 4 403 l0 S74).bind fun v78 =>
  (rcv Y 3 v78).bind fun _ =>
  (fX3_clear Y S74 v78 ).bind fun S81 =>
  some S81
set_option maxRecDepth 100000 in
set_option maxHeartbeats 4000000 in
theorem wX4_reset_25 {p : Program} {l : Launch} {e : Env} {R : Room} {s : State} {m : MethodId} {args : Array Value} {below : List Frame} {meth : Method} {c : Code} {G : GG} {Y : LY} {res : HS} (X : Cx p R s m args meth c RX4 cX4_reset 4 1 20 (fun q => q ∈ Y.1) G none) : ∀ (S : HS) (l0 : Option Nat) (l2 : Option Nat) (l3 : Option Nat) (s0 : Option Nat) (s1 : Int32), fX4_reset_25 Y S l0 l2 l3 s0 s1 = some res → ∀ (H : Heap) (locs : List Loc) (ls : Array Slot), HP (fun q => q ∈ Y.1) G Y s S H locs → LV ls 4 [(0, va_rf l0), (2, va_rf l2), (3, va_rf l3)] → W p l e R s m args below meth c H locs 0 0 (MQ below (QI G Y res none) args s 0 0 (fun q => q ∈ Y.1)) (F0 m 25 ls (.int s1 :: (va_rf s0 :: []))) := by
  have hx := X.1.1
  have hb := X.1.2.1
  intro S l0 l2 l3 s0 s1 hf H locs ls hP hl
  unfold fX4_reset_25 at hf
  obtain ⟨S25, e25, hf⟩ := ob hf
  refine rw_putI X dX4_reset_25 fl4_35 fw4_6 e25 rfl hP (fun H locs hP => ?_)
  refine rw_aload_n X dX4_reset_28 rfl (hl.at 0 rfl) ?_
  refine lv_iconst (v := 0) hx hb dX4_reset_29 (by decide) ?_
  obtain ⟨S30, e30, hf⟩ := ob hf
  refine rw_putI X dX4_reset_30 fl4_38 fw4_7 e30 rfl hP (fun H locs hP => ?_)
  refine rw_aload_n X dX4_reset_33 rfl (hl.at 0 rfl) ?_
  refine rw_aload_n X dX4_reset_34 rfl (hl.at 2 rfl) ?_
  obtain ⟨S35, e35, hf⟩ := ob hf
  refine rw_putR X dX4_reset_35 fl4_41 fw4_8 e35 rfl hP (fun H locs hP => ?_)
  refine rw_aload_n X dX4_reset_38 rfl (hl.at 0 rfl) ?_
  refine rw_aload_n X dX4_reset_39 rfl (hl.at 1 rfl) ?_
  obtain ⟨S40, e40, hf⟩ := ob hf
  refine rw_putR X dX4_reset_40 fl4_45 fw4_9 e40 rfl hP (fun H locs hP => ?_)
  refine rw_aload_n X dX4_reset_43 rfl (hl.at 0 rfl) ?_
  refine lv_null hx hb dX4_reset_44 ?_
  refine W.eq (g2 := F0 m 45 ls (va_rf none :: (va_rf l0 :: []))) rfl ?_
  obtain ⟨S45, e45, hf⟩ := ob hf
  refine rw_putR X dX4_reset_45 fl4_48 fw4_10 e45 rfl hP (fun H locs hP => ?_)
  refine rw_aload_n X dX4_reset_48 rfl (hl.at 0 rfl) ?_
  refine lv_null hx hb dX4_reset_49 ?_
  refine W.eq (g2 := F0 m 50 ls (va_rf none :: (va_rf l0 :: []))) rfl ?_
  obtain ⟨S50, e50, hf⟩ := ob hf
  refine rw_putR X dX4_reset_50 fl4_51 fw4_11 e50 rfl hP (fun H locs hP => ?_)
  refine rw_aload_n X dX4_reset_53 rfl (hl.at 0 rfl) ?_
  refine lv_null hx hb dX4_reset_54 ?_
  refine W.eq (g2 := F0 m 55 ls (va_rf none :: (va_rf l0 :: []))) rfl ?_
  obtain ⟨S55, e55, hf⟩ := ob hf
  refine rw_putR X dX4_reset_55 fl4_54 fw4_12 e55 rfl hP (fun H locs hP => ?_)
  refine rw_aload_n X dX4_reset_58 rfl (hl.at 0 rfl) ?_
  refine rw_aload_n X dX4_reset_59 rfl (hl.at 0 rfl) ?_
  obtain ⟨S60, e60, hf⟩ := ob hf
  refine rw_putR X dX4_reset_60 fl4_57 fw4_13 e60 rfl hP (fun H locs hP => ?_)
  refine rw_aload_n X dX4_reset_63 rfl (hl.at 0 rfl) ?_
  obtain ⟨v64, e64, hf⟩ := ob hf
  refine rw_getR X dX4_reset_64 fl4_12 e64 rfl hP ?_
  obtain ⟨u67, r67, hf⟩ := ob hf
  obtain ⟨S67, e67, hf⟩ := ob hf
  refine rw_callVv (As := []) X dX4_reset_67 clX4_63 pyX1_clear (mX1_clear l e67) (by decide) r67 rfl hP rfl (catL c1n (Nat.le_of_ble_eq_true rfl)) hl.1.1 (fun H locs hP => ?_)
  refine rw_aload_n X dX4_reset_70 rfl (hl.at 0 rfl) ?_
  obtain ⟨v71, e71, hf⟩ := ob hf
  refine rw_getR X dX4_reset_71 fl4_18 e71 rfl hP ?_
  obtain ⟨u74, r74, hf⟩ := ob hf
  obtain ⟨S74, e74, hf⟩ := ob hf
  refine rw_callVv (As := []) X dX4_reset_74 clX4_63 pyX1_clear (mX1_clear l e74) (by decide) r74 rfl hP rfl (catL c1n (Nat.le_of_ble_eq_true rfl)) hl.1.1 (fun H locs hP => ?_)
  refine rw_aload_n X dX4_reset_77 rfl (hl.at 0 rfl) ?_
  obtain ⟨v78, e78, hf⟩ := ob hf
  refine rw_getR X dX4_reset_78 fl4_24 e78 rfl hP ?_
  obtain ⟨u81, r81, hf⟩ := ob hf
  obtain ⟨S81, e81, hf⟩ := ob hf
  refine rw_callVv (As := []) X dX4_reset_81 clX4_66 pyX3_clear (mX3_clear l e81) (by decide) r81 rfl hP rfl (catL c1n (Nat.le_of_ble_eq_true rfl)) hl.1.1 (fun H locs hP => ?_)
  cases hf
  exact rw_vret X dX4_reset_84 hP
def fX4_reset (Y : LY) (S : HS) (l0 : Option Nat) (l1 : Int32) (l2 : Option Nat) (l3 : Option Nat) : Option (HS) :=
  (pI Y 4 404 l0 l1 S).bind fun S2 =>
  (pI Y 4 405 l0 0 S2).bind fun S7 =>
  if l2 = none then
    fX4_reset_25 Y S7 l0 l2 l3 l0 1
  else
    (gI Y 4 406 l2 S7).bind fun v20 =>
    fX4_reset_25 Y S7 l0 l2 l3 l0 (v20 + 1)
set_option maxRecDepth 100000 in
set_option maxHeartbeats 4000000 in
theorem mX4_reset (l : Launch) {G : GG} {Y : LY} {S : HS} {l0 : Option Nat} {l1 : Int32} {l2 : Option Nat} {l3 : Option Nat} {res : HS} (hf : fX4_reset Y S l0 l1 l2 l3 = some res) : MM l yX4_reset cX4_reset 4 none 1 20 G Y S [va_rf l0, .int l1, va_rf l2, va_rf l3] res none := by
  refine mm_of2 (plainFor_of_name (by decide +kernel)) (Nat.le_of_ble_eq_true rfl) (c1c (cr _) (c1c (ci _) (c1c (cr _) (c1c (cr _) c1n)))) ?_
  intro p e R s m args below meth c X H locs ls hP hl
  have X : Cx p R s m args meth c RX4 cX4_reset 4 1 20 (fun q => q ∈ Y.1) G none := X
  have hx := X.1.1
  have hb := X.1.2.1
  have hl : LV ls 4 [(0, va_rf l0), (1, .int l1), (2, va_rf l2), (3, va_rf l3)] := hl
  unfold fX4_reset at hf
  refine rw_aload_n X dX4_reset_0 rfl (hl.at 0 rfl) ?_
  refine lv_iload_n hx hb dX4_reset_1 rfl (hl.at 1 rfl) ?_
  obtain ⟨S2, e2, hf⟩ := ob hf
  refine rw_putI X dX4_reset_2 fl4_28 fw4_4 e2 rfl hP (fun H locs hP => ?_)
  refine rw_aload_n X dX4_reset_5 rfl (hl.at 0 rfl) ?_
  refine lv_iconst (v := 0) hx hb dX4_reset_6 (by decide) ?_
  obtain ⟨S7, e7, hf⟩ := ob hf
  refine rw_putI X dX4_reset_7 fl4_32 fw4_5 e7 rfl hP (fun H locs hP => ?_)
  refine rw_aload_n X dX4_reset_10 rfl (hl.at 0 rfl) ?_
  refine rw_aload_n X dX4_reset_11 rfl (hl.at 2 rfl) ?_
  refine rw_ifnonnull X (tgt := 19) dX4_reset_12 (by decide) (fun c12 => ?_) (fun c12 => ?_)
  · have hf := ifn hf c12
    refine rw_aload_n X dX4_reset_19 rfl (hl.at 2 rfl) ?_
    obtain ⟨v20, e20, hf⟩ := ob hf
    refine rw_getI X dX4_reset_20 fl4_35 e20 rfl hP ?_
    refine lv_iconst (v := 1) hx hb dX4_reset_23 (by decide) ?_
    refine lv_iadd hx hb dX4_reset_24 ?_
    exact wX4_reset_25 X S7 l0 l2 l3 l0 (v20 + 1) hf _ _ _ hP (hl.sub [0, 2, 3] rfl)
  · have hf := ifp hf c12
    refine lv_iconst (v := 1) hx hb dX4_reset_15 (by decide) ?_
    refine lv_goto (tgt := 25) hx hb dX4_reset_16 (by decide) ?_
    exact wX4_reset_25 X S7 l0 l2 l3 l0 1 hf _ _ _ hP (hl.sub [0, 2, 3] rfl)
theorem dX4_adopt_0 : decode cX4_adopt 0 = .ok (.aload_n 0, 1) := by decide +kernel
theorem dX4_adopt_1 : decode cX4_adopt 1 = .ok (.getfield 51, 3) := by decide +kernel
theorem dX4_adopt_4 : decode cX4_adopt 4 = .ok (.ifnonnull 11, 3) := by decide +kernel
theorem dX4_adopt_7 : decode cX4_adopt 7 = .ok (.aload_n 0, 1) := by decide +kernel
theorem dX4_adopt_8 : decode cX4_adopt 8 = .ok (.aload_n 1, 1) := by decide +kernel
theorem dX4_adopt_9 : decode cX4_adopt 9 = .ok (.putfield 48, 3) := by decide +kernel
theorem dX4_adopt_12 : decode cX4_adopt 12 = .ok (.goto 11, 3) := by decide +kernel
theorem dX4_adopt_15 : decode cX4_adopt 15 = .ok (.aload_n 0, 1) := by decide +kernel
theorem dX4_adopt_16 : decode cX4_adopt 16 = .ok (.getfield 51, 3) := by decide +kernel
theorem dX4_adopt_19 : decode cX4_adopt 19 = .ok (.aload_n 1, 1) := by decide +kernel
theorem dX4_adopt_20 : decode cX4_adopt 20 = .ok (.putfield 54, 3) := by decide +kernel
theorem dX4_adopt_23 : decode cX4_adopt 23 = .ok (.aload_n 0, 1) := by decide +kernel
theorem dX4_adopt_24 : decode cX4_adopt 24 = .ok (.aload_n 1, 1) := by decide +kernel
theorem dX4_adopt_25 : decode cX4_adopt 25 = .ok (.putfield 51, 3) := by decide +kernel
theorem dX4_adopt_28 : decode cX4_adopt 28 = .ok (.aload_n 0, 1) := by decide +kernel
theorem dX4_adopt_29 : decode cX4_adopt 29 = .ok (.dup, 1) := by decide +kernel
theorem dX4_adopt_30 : decode cX4_adopt 30 = .ok (.getfield 38, 3) := by decide +kernel
theorem dX4_adopt_33 : decode cX4_adopt 33 = .ok (.iconst 1, 1) := by decide +kernel
theorem dX4_adopt_34 : decode cX4_adopt 34 = .ok (.iadd, 1) := by decide +kernel
theorem dX4_adopt_35 : decode cX4_adopt 35 = .ok (.putfield 38, 3) := by decide +kernel
theorem dX4_adopt_38 : decode cX4_adopt 38 = .ok (.aload_n 0, 1) := by decide +kernel
theorem dX4_adopt_39 : decode cX4_adopt 39 = .ok (.astore_n 2, 1) := by decide +kernel
theorem dX4_adopt_40 : decode cX4_adopt 40 = .ok (.aload_n 2, 1) := by decide +kernel
theorem dX4_adopt_41 : decode cX4_adopt 41 = .ok (.ifnull 16, 3) := by decide +kernel
theorem dX4_adopt_44 : decode cX4_adopt 44 = .ok (.aload_n 2, 1) := by decide +kernel
theorem dX4_adopt_45 : decode cX4_adopt 45 = .ok (.aload_n 1, 1) := by decide +kernel
theorem dX4_adopt_46 : decode cX4_adopt 46 = .ok (.putfield 57, 3) := by decide +kernel
theorem dX4_adopt_49 : decode cX4_adopt 49 = .ok (.aload_n 2, 1) := by decide +kernel
theorem dX4_adopt_50 : decode cX4_adopt 50 = .ok (.getfield 45, 3) := by decide +kernel
theorem dX4_adopt_53 : decode cX4_adopt 53 = .ok (.astore_n 2, 1) := by decide +kernel
theorem dX4_adopt_54 : decode cX4_adopt 54 = .ok (.goto (-14), 3) := by decide +kernel
theorem dX4_adopt_57 : decode cX4_adopt 57 = .ok (.return_, 1) := by decide +kernel
theorem pyX4_adopt : PY yX4_adopt 1 := ⟨by decide +kernel, by decide +kernel, by decide +kernel⟩
def fX4_adopt_40 (Y : LY) : Nat → HS → Option Nat → Option Nat → Option (HS)
  | 0, _, _, _ => none
  | n + 1, S, l1, l2 =>
    if l2 = none then
      some S
    else
      (pR Y 4 413 l2 l1 S).bind fun S46 =>
      (gR Y 4 409 l2 S46).bind fun v50 =>
      fX4_adopt_40 Y n S46 l1 v50
set_option maxRecDepth 100000 in
set_option maxHeartbeats 4000000 in
theorem wX4_adopt_40 {p : Program} {l : Launch} {e : Env} {R : Room} {s : State} {m : MethodId} {args : Array Value} {below : List Frame} {meth : Method} {c : Code} {G : GG} {Y : LY} {res : HS} (X : Cx p R s m args meth c RX4 cX4_adopt 3 0 0 (fun q => q ∈ Y.1) G none) : ∀ (n : Nat) (S : HS) (l1 : Option Nat) (l2 : Option Nat), fX4_adopt_40 Y n S l1 l2 = some res → ∀ (H : Heap) (locs : List Loc) (ls : Array Slot), HP (fun q => q ∈ Y.1) G Y s S H locs → LV ls 3 [(1, va_rf l1), (2, va_rf l2)] → W p l e R s m args below meth c H locs 0 0 (MQ below (QI G Y res none) args s 0 0 (fun q => q ∈ Y.1)) (F0 m 40 ls []) := by
  have hx := X.1.1
  have hb := X.1.2.1
  intro n
  induction n with
  | zero =>
    intro S l1 l2 hf
    cases hf
  | succ n ih =>
    intro S l1 l2 hf H locs ls hP hl
    rw [fX4_adopt_40] at hf
    refine rw_aload_n X dX4_adopt_40 rfl (hl.at 1 rfl) ?_
    refine rw_ifnull X (tgt := 57) dX4_adopt_41 (by decide) (fun c41 => ?_) (fun c41 => ?_)
    · have hf := ifp hf c41
      cases hf
      exact rw_vret X dX4_adopt_57 hP
    · have hf := ifn hf c41
      refine rw_aload_n X dX4_adopt_44 rfl (hl.at 1 rfl) ?_
      refine rw_aload_n X dX4_adopt_45 rfl (hl.at 0 rfl) ?_
      obtain ⟨S46, e46, hf⟩ := ob hf
      refine rw_putR X dX4_adopt_46 fl4_57 fw4_13 e46 rfl hP (fun H locs hP => ?_)
      refine rw_aload_n X dX4_adopt_49 rfl (hl.at 1 rfl) ?_
      obtain ⟨v50, e50, hf⟩ := ob hf
      refine rw_getR X dX4_adopt_50 fl4_45 e50 rfl hP ?_
      refine rv_astore_n X dX4_adopt_53 rfl hl (by decide) rfl (fun ls hl => ?_)
      have hl : LV ls 3 [(2, va_rf v50), (1, va_rf l1)] := hl
      refine lv_goto (tgt := 40) hx hb dX4_adopt_54 (by decide) ?_
      exact ih S46 l1 v50 hf _ _ _ hP (hl.sub [1, 0] rfl)
def fX4_adopt_23 (Y : LY) (S : HS) (l0 : Option Nat) (l1 : Option Nat) : Option (HS) :=
  (pR Y 4 411 l0 l1 S).bind fun S25 =>
  (gI Y 4 407 l0 S25).bind fun v30 =>
  (pI Y 4 407 l0 (v30 + 1) S25).bind fun S35 =>
  fX4_adopt_40 Y FU S35 l1 l0
set_option maxRecDepth 100000 in
set_option maxHeartbeats 4000000 in
theorem wX4_adopt_23 {p : Program} {l : Launch} {e : Env} {R : Room} {s : State} {m : MethodId} {args : Array Value} {below : List Frame} {meth : Method} {c : Code} {G : GG} {Y : LY} {res : HS} (X : Cx p R s m args meth c RX4 cX4_adopt 3 0 0 (fun q => q ∈ Y.1) G none) : ∀ (S : HS) (l0 : Option Nat) (l1 : Option Nat), fX4_adopt_23 Y S l0 l1 = some res → ∀ (H : Heap) (locs : List Loc) (ls : Array Slot), HP (fun q => q ∈ Y.1) G Y s S H locs → LV ls 3 [(0, va_rf l0), (1, va_rf l1)] → W p l e R s m args below meth c H locs 0 0 (MQ below (QI G Y res none) args s 0 0 (fun q => q ∈ Y.1)) (F0 m 23 ls []) := by
  have hx := X.1.1
  have hb := X.1.2.1
  intro S l0 l1 hf H locs ls hP hl
  unfold fX4_adopt_23 at hf
  refine rw_aload_n X dX4_adopt_23 rfl (hl.at 0 rfl) ?_
  refine rw_aload_n X dX4_adopt_24 rfl (hl.at 1 rfl) ?_
  obtain ⟨S25, e25, hf⟩ := ob hf
  refine rw_putR X dX4_adopt_25 fl4_51 fw4_11 e25 rfl hP (fun H locs hP => ?_)
  refine rw_aload_n X dX4_adopt_28 rfl (hl.at 0 rfl) ?_
  refine lv_dup hx hb dX4_adopt_29 (cr _) ?_
  obtain ⟨v30, e30, hf⟩ := ob hf
  refine rw_getI X dX4_adopt_30 fl4_38 e30 rfl hP ?_
  refine lv_iconst (v := 1) hx hb dX4_adopt_33 (by decide) ?_
  refine lv_iadd hx hb dX4_adopt_34 ?_
  obtain ⟨S35, e35, hf⟩ := ob hf
  refine rw_putI X dX4_adopt_35 fl4_38 fw4_7 e35 rfl hP (fun H locs hP => ?_)
  refine rw_aload_n X dX4_adopt_38 rfl (hl.at 0 rfl) ?_
  refine rv_astore_n X dX4_adopt_39 rfl hl (by decide) rfl (fun ls hl => ?_)
  have hl : LV ls 3 [(2, va_rf l0), (0, va_rf l0), (1, va_rf l1)] := hl
  exact wX4_adopt_40 X FU S35 l1 l0 hf _ _ _ hP (hl.sub [2, 0] rfl)
def fX4_adopt (Y : LY) (S : HS) (l0 : Option Nat) (l1 : Option Nat) : Option (HS) :=
  (gR Y 4 411 l0 S).bind fun v1 =>
  if v1 = none then
    (pR Y 4 410 l0 l1 S).bind fun S9 =>
    fX4_adopt_23 Y S9 l0 l1
  else
    (gR Y 4 411 l0 S).bind fun v16 =>
    (pR Y 4 412 v16 l1 S).bind fun S20 =>
    fX4_adopt_23 Y S20 l0 l1
set_option maxRecDepth 100000 in
set_option maxHeartbeats 4000000 in
theorem mX4_adopt (l : Launch) {G : GG} {Y : LY} {S : HS} {l0 : Option Nat} {l1 : Option Nat} {res : HS} (hf : fX4_adopt Y S l0 l1 = some res) : MM l yX4_adopt cX4_adopt 3 none 0 0 G Y S [va_rf l0, va_rf l1] res none := by
  refine mm_of2 (plainFor_of_name (by decide +kernel)) (Nat.le_of_ble_eq_true rfl) (c1c (cr _) (c1c (cr _) c1n)) ?_
  intro p e R s m args below meth c X H locs ls hP hl
  have X : Cx p R s m args meth c RX4 cX4_adopt 3 0 0 (fun q => q ∈ Y.1) G none := X
  have hx := X.1.1
  have hb := X.1.2.1
  have hl : LV ls 3 [(0, va_rf l0), (1, va_rf l1)] := hl
  unfold fX4_adopt at hf
  refine rw_aload_n X dX4_adopt_0 rfl (hl.at 0 rfl) ?_
  obtain ⟨v1, e1, hf⟩ := ob hf
  refine rw_getR X dX4_adopt_1 fl4_51 e1 rfl hP ?_
  refine rw_ifnonnull X (tgt := 15) dX4_adopt_4 (by decide) (fun c4 => ?_) (fun c4 => ?_)
  · have hf := ifn hf c4
    refine rw_aload_n X dX4_adopt_15 rfl (hl.at 0 rfl) ?_
    obtain ⟨v16, e16, hf⟩ := ob hf
    refine rw_getR X dX4_adopt_16 fl4_51 e16 rfl hP ?_
    refine rw_aload_n X dX4_adopt_19 rfl (hl.at 1 rfl) ?_
    obtain ⟨S20, e20, hf⟩ := ob hf
    refine rw_putR X dX4_adopt_20 fl4_54 fw4_12 e20 rfl hP (fun H locs hP => ?_)
    exact wX4_adopt_23 X S20 l0 l1 hf _ _ _ hP (hl.sub [0, 1] rfl)
  · have hf := ifp hf c4
    refine rw_aload_n X dX4_adopt_7 rfl (hl.at 0 rfl) ?_
    refine rw_aload_n X dX4_adopt_8 rfl (hl.at 1 rfl) ?_
    obtain ⟨S9, e9, hf⟩ := ob hf
    refine rw_putR X dX4_adopt_9 fl4_48 fw4_10 e9 rfl hP (fun H locs hP => ?_)
    refine lv_goto (tgt := 23) hx hb dX4_adopt_12 (by decide) ?_
    exact wX4_adopt_23 X S9 l0 l1 hf _ _ _ hP (hl.sub [0, 1] rfl)
theorem dX4_hasList_0 : decode cX4_hasList 0 = .ok (.aload_n 0, 1) := by decide +kernel
theorem dX4_hasList_1 : decode cX4_hasList 1 = .ok (.getfield 28, 3) := by decide +kernel
theorem dX4_hasList_4 : decode cX4_hasList 4 = .ok (.iconst 4, 1) := by decide +kernel
theorem dX4_hasList_5 : decode cX4_hasList 5 = .ok (.if_icmp .lt 16, 3) := by decide +kernel
theorem dX4_hasList_8 : decode cX4_hasList 8 = .ok (.aload_n 0, 1) := by decide +kernel
theorem dX4_hasList_9 : decode cX4_hasList 9 = .ok (.getfield 28, 3) := by decide +kernel
theorem dX4_hasList_12 : decode cX4_hasList 12 = .ok (.bipush 8, 2) := by decide +kernel
theorem dX4_hasList_14 : decode cX4_hasList 14 = .ok (.if_icmp .gt 7, 3) := by decide +kernel
theorem dX4_hasList_17 : decode cX4_hasList 17 = .ok (.iconst 1, 1) := by decide +kernel
theorem dX4_hasList_18 : decode cX4_hasList 18 = .ok (.goto 4, 3) := by decide +kernel
theorem dX4_hasList_21 : decode cX4_hasList 21 = .ok (.iconst 0, 1) := by decide +kernel
theorem dX4_hasList_22 : decode cX4_hasList 22 = .ok (.ireturn, 1) := by decide +kernel
theorem pyX4_hasList : PY yX4_hasList 0 := ⟨by decide +kernel, by decide +kernel, by decide +kernel⟩
def fX4_hasList (Y : LY) (S : HS) (l0 : Option Nat) : Option (Int32) :=
  (gI Y 4 404 l0 S).bind fun v1 =>
  if v1 < 4 then
    some 0
  else
    (gI Y 4 404 l0 S).bind fun v9 =>
    if 8 < v9 then
      some 0
    else
      some 1
set_option maxRecDepth 100000 in
set_option maxHeartbeats 4000000 in
theorem mX4_hasList (l : Launch) {G : GG} {Y : LY} {S : HS} {l0 : Option Nat} {res : Int32} (hf : fX4_hasList Y S l0 = some res) : MM l yX4_hasList cX4_hasList 1 (some .boolean) 0 0 G Y S [va_rf l0] S (some (.int res)) := by
  refine mm_of2 (plainFor_of_name (by decide +kernel)) (Nat.le_of_ble_eq_true rfl) (c1c (cr _) c1n) ?_
  intro p e R s m args below meth c X H locs ls hP hl
  have X : Cx p R s m args meth c RX4 cX4_hasList 1 0 0 (fun q => q ∈ Y.1) G (some .boolean) := X
  have hx := X.1.1
  have hb := X.1.2.1
  have hl : LV ls 1 [(0, va_rf l0)] := hl
  unfold fX4_hasList at hf
  refine rw_aload_n X dX4_hasList_0 rfl (hl.at 0 rfl) ?_
  obtain ⟨v1, e1, hf⟩ := ob hf
  refine rw_getI X dX4_hasList_1 fl4_28 e1 rfl hP ?_
  refine lv_iconst (v := 4) hx hb dX4_hasList_4 (by decide) ?_
  refine lv_icmp_lt hx hb (tgt := 21) dX4_hasList_5 (by decide) (fun c5 => ?_) (fun c5 => ?_)
  · have hf := ifp hf c5
    refine lv_iconst (v := 0) hx hb dX4_hasList_21 (by decide) ?_
    cases hf
    exact rw_zret X (by decide) dX4_hasList_22 hP
  · have hf := ifn hf c5
    refine rw_aload_n X dX4_hasList_8 rfl (hl.at 0 rfl) ?_
    obtain ⟨v9, e9, hf⟩ := ob hf
    refine rw_getI X dX4_hasList_9 fl4_28 e9 rfl hP ?_
    refine lv_bipush (v := 8) hx hb dX4_hasList_12 (by decide) ?_
    refine lv_icmp_gt hx hb (tgt := 21) dX4_hasList_14 (by decide) (fun c14 => ?_) (fun c14 => ?_)
    · have hf := ifp hf c14
      refine lv_iconst (v := 0) hx hb dX4_hasList_21 (by decide) ?_
      cases hf
      exact rw_zret X (by decide) dX4_hasList_22 hP
    · have hf := ifn hf c14
      refine lv_iconst (v := 1) hx hb dX4_hasList_17 (by decide) ?_
      refine lv_goto (tgt := 22) hx hb dX4_hasList_18 (by decide) ?_
      cases hf
      exact rw_zret X (by decide) dX4_hasList_22 hP
theorem dX4_isReactive_0 : decode cX4_isReactive 0 = .ok (.aload_n 0, 1) := by decide +kernel
theorem dX4_isReactive_1 : decode cX4_isReactive 1 = .ok (.getfield 28, 3) := by decide +kernel
theorem dX4_isReactive_4 : decode cX4_isReactive 4 = .ok (.bipush 6, 2) := by decide +kernel
theorem dX4_isReactive_6 : decode cX4_isReactive 6 = .ok (.if_icmp .eq 12, 3) := by decide +kernel
theorem dX4_isReactive_9 : decode cX4_isReactive 9 = .ok (.aload_n 0, 1) := by decide +kernel
theorem dX4_isReactive_10 : decode cX4_isReactive 10 = .ok (.getfield 28, 3) := by decide +kernel
theorem dX4_isReactive_13 : decode cX4_isReactive 13 = .ok (.bipush 7, 2) := by decide +kernel
theorem dX4_isReactive_15 : decode cX4_isReactive 15 = .ok (.if_icmp .ne 7, 3) := by decide +kernel
theorem dX4_isReactive_18 : decode cX4_isReactive 18 = .ok (.iconst 1, 1) := by decide +kernel
theorem dX4_isReactive_19 : decode cX4_isReactive 19 = .ok (.goto 4, 3) := by decide +kernel
theorem dX4_isReactive_22 : decode cX4_isReactive 22 = .ok (.iconst 0, 1) := by decide +kernel
theorem dX4_isReactive_23 : decode cX4_isReactive 23 = .ok (.ireturn, 1) := by decide +kernel
theorem pyX4_isReactive : PY yX4_isReactive 0 := ⟨by decide +kernel, by decide +kernel, by decide +kernel⟩
def fX4_isReactive (Y : LY) (S : HS) (l0 : Option Nat) : Option (Int32) :=
  (gI Y 4 404 l0 S).bind fun v1 =>
  if v1 = 6 then
    some 1
  else
    (gI Y 4 404 l0 S).bind fun v10 =>
    if v10 = 7 then
      some 1
    else
      some 0
set_option maxRecDepth 100000 in
set_option maxHeartbeats 4000000 in
theorem mX4_isReactive (l : Launch) {G : GG} {Y : LY} {S : HS} {l0 : Option Nat} {res : Int32} (hf : fX4_isReactive Y S l0 = some res) : MM l yX4_isReactive cX4_isReactive 1 (some .boolean) 0 0 G Y S [va_rf l0] S (some (.int res)) := by
  refine mm_of2 (plainFor_of_name (by decide +kernel)) (Nat.le_of_ble_eq_true rfl) (c1c (cr _) c1n) ?_
  intro p e R s m args below meth c X H locs ls hP hl
  have X : Cx p R s m args meth c RX4 cX4_isReactive 1 0 0 (fun q => q ∈ Y.1) G (some .boolean) := X
  have hx := X.1.1
  have hb := X.1.2.1
  have hl : LV ls 1 [(0, va_rf l0)] := hl
  unfold fX4_isReactive at hf
  refine rw_aload_n X dX4_isReactive_0 rfl (hl.at 0 rfl) ?_
  obtain ⟨v1, e1, hf⟩ := ob hf
  refine rw_getI X dX4_isReactive_1 fl4_28 e1 rfl hP ?_
  refine lv_bipush (v := 6) hx hb dX4_isReactive_4 (by decide) ?_
  refine lv_icmp_eq hx hb (tgt := 18) dX4_isReactive_6 (by decide) (fun c6 => ?_) (fun c6 => ?_)
  · have hf := ifp hf c6
    refine lv_iconst (v := 1) hx hb dX4_isReactive_18 (by decide) ?_
    refine lv_goto (tgt := 23) hx hb dX4_isReactive_19 (by decide) ?_
    cases hf
    exact rw_zret X (by decide) dX4_isReactive_23 hP
  · have hf := ifn hf c6
    refine rw_aload_n X dX4_isReactive_9 rfl (hl.at 0 rfl) ?_
    obtain ⟨v10, e10, hf⟩ := ob hf
    refine rw_getI X dX4_isReactive_10 fl4_28 e10 rfl hP ?_
    refine lv_bipush (v := 7) hx hb dX4_isReactive_13 (by decide) ?_
    refine lv_icmp_ne hx hb (tgt := 22) dX4_isReactive_15 (by decide) (fun c15 => ?_) (fun c15 => ?_)
    · have hf := ifn hf c15
      refine lv_iconst (v := 0) hx hb dX4_isReactive_22 (by decide) ?_
      cases hf
      exact rw_zret X (by decide) dX4_isReactive_23 hP
    · have hf := ifp hf c15
      refine lv_iconst (v := 1) hx hb dX4_isReactive_18 (by decide) ?_
      refine lv_goto (tgt := 23) hx hb dX4_isReactive_19 (by decide) ?_
      cases hf
      exact rw_zret X (by decide) dX4_isReactive_23 hP
theorem dX4_scopeOf_0 : decode cX4_scopeOf 0 = .ok (.aload_n 0, 1) := by decide +kernel
theorem dX4_scopeOf_1 : decode cX4_scopeOf 1 = .ok (.getfield 45, 3) := by decide +kernel
theorem dX4_scopeOf_4 : decode cX4_scopeOf 4 = .ok (.astore_n 2, 1) := by decide +kernel
theorem dX4_scopeOf_5 : decode cX4_scopeOf 5 = .ok (.aload_n 2, 1) := by decide +kernel
theorem dX4_scopeOf_6 : decode cX4_scopeOf 6 = .ok (.ifnull 30, 3) := by decide +kernel
theorem dX4_scopeOf_9 : decode cX4_scopeOf 9 = .ok (.aload_n 2, 1) := by decide +kernel
theorem dX4_scopeOf_10 : decode cX4_scopeOf 10 = .ok (.getfield 28, 3) := by decide +kernel
theorem dX4_scopeOf_13 : decode cX4_scopeOf 13 = .ok (.bipush 14, 2) := by decide +kernel
theorem dX4_scopeOf_15 : decode cX4_scopeOf 15 = .ok (.if_icmp .ne 13, 3) := by decide +kernel
theorem dX4_scopeOf_18 : decode cX4_scopeOf 18 = .ok (.aload_n 2, 1) := by decide +kernel
theorem dX4_scopeOf_19 : decode cX4_scopeOf 19 = .ok (.getfield 32, 3) := by decide +kernel
theorem dX4_scopeOf_22 : decode cX4_scopeOf 22 = .ok (.iload_n 1, 1) := by decide +kernel
theorem dX4_scopeOf_23 : decode cX4_scopeOf 23 = .ok (.if_icmp .ne 5, 3) := by decide +kernel
theorem dX4_scopeOf_26 : decode cX4_scopeOf 26 = .ok (.aload_n 2, 1) := by decide +kernel
theorem dX4_scopeOf_27 : decode cX4_scopeOf 27 = .ok (.areturn, 1) := by decide +kernel
theorem dX4_scopeOf_28 : decode cX4_scopeOf 28 = .ok (.aload_n 2, 1) := by decide +kernel
theorem dX4_scopeOf_29 : decode cX4_scopeOf 29 = .ok (.getfield 45, 3) := by decide +kernel
theorem dX4_scopeOf_32 : decode cX4_scopeOf 32 = .ok (.astore_n 2, 1) := by decide +kernel
theorem dX4_scopeOf_33 : decode cX4_scopeOf 33 = .ok (.goto (-28), 3) := by decide +kernel
theorem dX4_scopeOf_36 : decode cX4_scopeOf 36 = .ok (.aconst_null, 1) := by decide +kernel
theorem dX4_scopeOf_37 : decode cX4_scopeOf 37 = .ok (.areturn, 1) := by decide +kernel
theorem pyX4_scopeOf : PY yX4_scopeOf 1 := ⟨by decide +kernel, by decide +kernel, by decide +kernel⟩
def fX4_scopeOf_5 (Y : LY) (S : HS) : Nat → Int32 → Option Nat → Option (Option Nat)
  | 0, _, _ => none
  | n + 1, l1, l2 =>
    if l2 = none then
      some none
    else
      (gI Y 4 404 l2 S).bind fun v10 =>
      if v10 = 14 then
        (gI Y 4 405 l2 S).bind fun v19 =>
        if v19 = l1 then
          some l2
        else
          (gR Y 4 409 l2 S).bind fun v29 =>
          fX4_scopeOf_5 Y S n l1 v29
      else
        (gR Y 4 409 l2 S).bind fun v29 =>
        fX4_scopeOf_5 Y S n l1 v29
set_option maxRecDepth 100000 in
set_option maxHeartbeats 4000000 in
theorem wX4_scopeOf_5 {p : Program} {l : Launch} {e : Env} {R : Room} {s : State} {m : MethodId} {args : Array Value} {below : List Frame} {meth : Method} {c : Code} {G : GG} {Y : LY} {S : HS} {res : Option Nat} (X : Cx p R s m args meth c RX4 cX4_scopeOf 3 0 0 (fun q => q ∈ Y.1) G (some (.object "BehaviorRunner$Node"))) : ∀ (n : Nat) (l1 : Int32) (l2 : Option Nat), fX4_scopeOf_5 Y S n l1 l2 = some res → ∀ (H : Heap) (locs : List Loc) (ls : Array Slot), HP (fun q => q ∈ Y.1) G Y s S H locs → LV ls 3 [(1, .int l1), (2, va_rf l2)] → W p l e R s m args below meth c H locs 0 0 (MQ below (QI G Y S (some (va_rf res))) args s 0 0 (fun q => q ∈ Y.1)) (F0 m 5 ls []) := by
  have hx := X.1.1
  have hb := X.1.2.1
  intro n
  induction n with
  | zero =>
    intro l1 l2 hf
    cases hf
  | succ n ih =>
    intro l1 l2 hf H locs ls hP hl
    rw [fX4_scopeOf_5] at hf
    refine rw_aload_n X dX4_scopeOf_5 rfl (hl.at 1 rfl) ?_
    refine rw_ifnull X (tgt := 36) dX4_scopeOf_6 (by decide) (fun c6 => ?_) (fun c6 => ?_)
    · have hf := ifp hf c6
      refine lv_null hx hb dX4_scopeOf_36 ?_
      refine W.eq (g2 := F0 m 37 ls (va_rf none :: [])) rfl ?_
      cases hf
      exact rw_aret X dX4_scopeOf_37 hP
    · have hf := ifn hf c6
      refine rw_aload_n X dX4_scopeOf_9 rfl (hl.at 1 rfl) ?_
      obtain ⟨v10, e10, hf⟩ := ob hf
      refine rw_getI X dX4_scopeOf_10 fl4_28 e10 rfl hP ?_
      refine lv_bipush (v := 14) hx hb dX4_scopeOf_13 (by decide) ?_
      refine lv_icmp_ne hx hb (tgt := 28) dX4_scopeOf_15 (by decide) (fun c15 => ?_) (fun c15 => ?_)
      · have hf := ifn hf c15
        refine rw_aload_n X dX4_scopeOf_28 rfl (hl.at 1 rfl) ?_
        obtain ⟨v29, e29, hf⟩ := ob hf
        refine rw_getR X dX4_scopeOf_29 fl4_45 e29 rfl hP ?_
        refine rv_astore_n X dX4_scopeOf_32 rfl hl (by decide) rfl (fun ls hl => ?_)
        have hl : LV ls 3 [(2, va_rf v29), (1, .int l1)] := hl
        refine lv_goto (tgt := 5) hx hb dX4_scopeOf_33 (by decide) ?_
        exact ih l1 v29 hf _ _ _ hP (hl.sub [1, 0] rfl)
      · have hf := ifp hf c15
        refine rw_aload_n X dX4_scopeOf_18 rfl (hl.at 1 rfl) ?_
        obtain ⟨v19, e19, hf⟩ := ob hf
        refine rw_getI X dX4_scopeOf_19 fl4_32 e19 rfl hP ?_
        refine lv_iload_n hx hb dX4_scopeOf_22 rfl (hl.at 0 rfl) ?_
        refine lv_icmp_ne hx hb (tgt := 28) dX4_scopeOf_23 (by decide) (fun c23 => ?_) (fun c23 => ?_)
        · have hf := ifn hf c23
          refine rw_aload_n X dX4_scopeOf_28 rfl (hl.at 1 rfl) ?_
          obtain ⟨v29, e29, hf⟩ := ob hf
          refine rw_getR X dX4_scopeOf_29 fl4_45 e29 rfl hP ?_
          refine rv_astore_n X dX4_scopeOf_32 rfl hl (by decide) rfl (fun ls hl => ?_)
          have hl : LV ls 3 [(2, va_rf v29), (1, .int l1)] := hl
          refine lv_goto (tgt := 5) hx hb dX4_scopeOf_33 (by decide) ?_
          exact ih l1 v29 hf _ _ _ hP (hl.sub [1, 0] rfl)
        · have hf := ifp hf c23
          refine rw_aload_n X dX4_scopeOf_26 rfl (hl.at 1 rfl) ?_
          cases hf
          exact rw_aret X dX4_scopeOf_27 hP
def fX4_scopeOf (Y : LY) (S : HS) (l0 : Option Nat) (l1 : Int32) : Option (Option Nat) :=
  (gR Y 4 409 l0 S).bind fun v1 =>
  fX4_scopeOf_5 Y S FU l1 v1
set_option maxRecDepth 100000 in
set_option maxHeartbeats 4000000 in
theorem mX4_scopeOf (l : Launch) {G : GG} {Y : LY} {S : HS} {l0 : Option Nat} {l1 : Int32} {res : Option Nat} (hf : fX4_scopeOf Y S l0 l1 = some res) : MM l yX4_scopeOf cX4_scopeOf 3 (some (.object "BehaviorRunner$Node")) 0 0 G Y S [va_rf l0, .int l1] S (some (va_rf res)) := by
  refine mm_of2 (plainFor_of_name (by decide +kernel)) (Nat.le_of_ble_eq_true rfl) (c1c (cr _) (c1c (ci _) c1n)) ?_
  intro p e R s m args below meth c X H locs ls hP hl
  have X : Cx p R s m args meth c RX4 cX4_scopeOf 3 0 0 (fun q => q ∈ Y.1) G (some (.object "BehaviorRunner$Node")) := X
  have hx := X.1.1
  have hb := X.1.2.1
  have hl : LV ls 3 [(0, va_rf l0), (1, .int l1)] := hl
  unfold fX4_scopeOf at hf
  refine rw_aload_n X dX4_scopeOf_0 rfl (hl.at 0 rfl) ?_
  obtain ⟨v1, e1, hf⟩ := ob hf
  refine rw_getR X dX4_scopeOf_1 fl4_45 e1 rfl hP ?_
  refine rv_astore_n X dX4_scopeOf_4 rfl hl (by decide) rfl (fun ls hl => ?_)
  have hl : LV ls 3 [(2, va_rf v1), (0, va_rf l0), (1, .int l1)] := hl
  exact wX4_scopeOf_5 X FU l1 v1 hf _ _ _ hP (hl.sub [2, 0] rfl)
theorem dX0_copyFrom_0 : decode cX0_copyFrom 0 = .ok (.aload_n 1, 1) := by decide +kernel
theorem dX0_copyFrom_1 : decode cX0_copyFrom 1 = .ok (.getfield 9, 3) := by decide +kernel
theorem dX0_copyFrom_4 : decode cX0_copyFrom 4 = .ok (.iconst 0, 1) := by decide +kernel
theorem dX0_copyFrom_5 : decode cX0_copyFrom 5 = .ok (.aload_n 0, 1) := by decide +kernel
theorem dX0_copyFrom_6 : decode cX0_copyFrom 6 = .ok (.getfield 9, 3) := by decide +kernel
theorem dX0_copyFrom_9 : decode cX0_copyFrom 9 = .ok (.iconst 0, 1) := by decide +kernel
theorem dX0_copyFrom_10 : decode cX0_copyFrom 10 = .ok (.bipush 8, 2) := by decide +kernel
theorem dX0_copyFrom_12 : decode cX0_copyFrom 12 = .ok (.invokestatic 15, 3) := by decide +kernel
theorem dX0_copyFrom_15 : decode cX0_copyFrom 15 = .ok (.return_, 1) := by decide +kernel
theorem pyX0_copyFrom : PY yX0_copyFrom 1 := ⟨by decide +kernel, by decide +kernel, by decide +kernel⟩
def fX0_copyFrom (Y : LY) (S : HS) (l0 : Option Nat) (l1 : Option Nat) : Option (HS) :=
  (gR Y 0 0 l1 S).bind fun v1 =>
  (gR Y 0 0 l0 S).bind fun v6 =>
  (cpA Y v1 0 v6 0 8 S).bind fun S12 =>
  some S12
set_option maxRecDepth 100000 in
set_option maxHeartbeats 4000000 in
theorem mX0_copyFrom (l : Launch) {G : GG} {Y : LY} {S : HS} {l0 : Option Nat} {l1 : Option Nat} {res : HS} (hf : fX0_copyFrom Y S l0 l1 = some res) : MM l yX0_copyFrom cX0_copyFrom 2 none 1 60 G Y S [va_rf l0, va_rf l1] res none := by
  refine mm_of2 (plainFor_of_name (by decide +kernel)) (Nat.le_of_ble_eq_true rfl) (c1c (cr _) (c1c (cr _) c1n)) ?_
  intro p e R s m args below meth c X H locs ls hP hl
  have X : Cx p R s m args meth c RX0 cX0_copyFrom 2 1 60 (fun q => q ∈ Y.1) G none := X
  have hx := X.1.1
  have hb := X.1.2.1
  have hl : LV ls 2 [(0, va_rf l0), (1, va_rf l1)] := hl
  unfold fX0_copyFrom at hf
  refine rw_aload_n X dX0_copyFrom_0 rfl (hl.at 1 rfl) ?_
  obtain ⟨v1, e1, hf⟩ := ob hf
  refine rw_getR X dX0_copyFrom_1 fl0_9 e1 rfl hP ?_
  refine lv_iconst (v := 0) hx hb dX0_copyFrom_4 (by decide) ?_
  refine rw_aload_n X dX0_copyFrom_5 rfl (hl.at 0 rfl) ?_
  obtain ⟨v6, e6, hf⟩ := ob hf
  refine rw_getR X dX0_copyFrom_6 fl0_9 e6 rfl hP ?_
  refine lv_iconst (v := 0) hx hb dX0_copyFrom_9 (by decide) ?_
  refine lv_bipush (v := 8) hx hb dX0_copyFrom_10 (by decide) ?_
  obtain ⟨S12, e12, hf⟩ := ob hf
  refine rv_copy X mlX0_15 e12 (by decide +kernel) hl.1.1 dX0_copyFrom_12 hP (fun H locs hP => ?_)
  cases hf
  exact rw_vret X dX0_copyFrom_15 hP
theorem dX0_valueIn_0 : decode cX0_valueIn 0 = .ok (.aload_n 1, 1) := by decide +kernel
theorem dX0_valueIn_1 : decode cX0_valueIn 1 = .ok (.ifnull 11, 3) := by decide +kernel
theorem dX0_valueIn_4 : decode cX0_valueIn 4 = .ok (.aload_n 1, 1) := by decide +kernel
theorem dX0_valueIn_5 : decode cX0_valueIn 5 = .ok (.getfield 21, 3) := by decide +kernel
theorem dX0_valueIn_8 : decode cX0_valueIn 8 = .ok (.getfield 27, 3) := by decide +kernel
theorem dX0_valueIn_11 : decode cX0_valueIn 11 = .ok (.ireturn, 1) := by decide +kernel
theorem dX0_valueIn_12 : decode cX0_valueIn 12 = .ok (.iload_n 2, 1) := by decide +kernel
theorem dX0_valueIn_13 : decode cX0_valueIn 13 = .ok (.ifCond .lt 12, 3) := by decide +kernel
theorem dX0_valueIn_16 : decode cX0_valueIn 16 = .ok (.iload_n 2, 1) := by decide +kernel
theorem dX0_valueIn_17 : decode cX0_valueIn 17 = .ok (.aload_n 0, 1) := by decide +kernel
theorem dX0_valueIn_18 : decode cX0_valueIn 18 = .ok (.getfield 9, 3) := by decide +kernel
theorem dX0_valueIn_21 : decode cX0_valueIn 21 = .ok (.arraylength, 1) := by decide +kernel
theorem dX0_valueIn_22 : decode cX0_valueIn 22 = .ok (.if_icmp .lt 7, 3) := by decide +kernel
theorem dX0_valueIn_25 : decode cX0_valueIn 25 = .ok (.iconst 0, 1) := by decide +kernel
theorem dX0_valueIn_26 : decode cX0_valueIn 26 = .ok (.goto 9, 3) := by decide +kernel
theorem dX0_valueIn_29 : decode cX0_valueIn 29 = .ok (.aload_n 0, 1) := by decide +kernel
theorem dX0_valueIn_30 : decode cX0_valueIn 30 = .ok (.getfield 9, 3) := by decide +kernel
theorem dX0_valueIn_33 : decode cX0_valueIn 33 = .ok (.iload_n 2, 1) := by decide +kernel
theorem dX0_valueIn_34 : decode cX0_valueIn 34 = .ok (.iaload, 1) := by decide +kernel
theorem dX0_valueIn_35 : decode cX0_valueIn 35 = .ok (.ireturn, 1) := by decide +kernel
theorem pyX0_valueIn : PY yX0_valueIn 2 := ⟨by decide +kernel, by decide +kernel, by decide +kernel⟩
def fX0_valueIn (Y : LY) (S : HS) (l0 : Option Nat) (l1 : Option Nat) (l2 : Int32) : Option (Int32) :=
  if l1 = none then
    if l2 < 0 then
      some 0
    else
      (gR Y 0 0 l0 S).bind fun v18 =>
      (aL Y 14 v18).bind fun v21 =>
      if l2 < v21 then
        (gR Y 0 0 l0 S).bind fun v30 =>
        (gA Y 14 v30 l2 S).bind fun v34 =>
        some v34
      else
        some 0
  else
    (gR Y 4 403 l1 S).bind fun v5 =>
    (gI Y 3 304 v5 S).bind fun v8 =>
    some v8
set_option maxRecDepth 100000 in
set_option maxHeartbeats 4000000 in
theorem mX0_valueIn (l : Launch) {G : GG} {Y : LY} {S : HS} {l0 : Option Nat} {l1 : Option Nat} {l2 : Int32} {res : Int32} (hf : fX0_valueIn Y S l0 l1 l2 = some res) : MM l yX0_valueIn cX0_valueIn 3 (some .int) 0 0 G Y S [va_rf l0, va_rf l1, .int l2] S (some (.int res)) := by
  refine mm_of2 (plainFor_of_name (by decide +kernel)) (Nat.le_of_ble_eq_true rfl) (c1c (cr _) (c1c (cr _) (c1c (ci _) c1n))) ?_
  intro p e R s m args below meth c X H locs ls hP hl
  have X : Cx p R s m args meth c RX0 cX0_valueIn 3 0 0 (fun q => q ∈ Y.1) G (some .int) := X
  have hx := X.1.1
  have hb := X.1.2.1
  have hl : LV ls 3 [(0, va_rf l0), (1, va_rf l1), (2, .int l2)] := hl
  unfold fX0_valueIn at hf
  refine rw_aload_n X dX0_valueIn_0 rfl (hl.at 1 rfl) ?_
  refine rw_ifnull X (tgt := 12) dX0_valueIn_1 (by decide) (fun c1 => ?_) (fun c1 => ?_)
  · have hf := ifp hf c1
    refine lv_iload_n hx hb dX0_valueIn_12 rfl (hl.at 2 rfl) ?_
    refine lv_if_lt hx hb (tgt := 25) dX0_valueIn_13 (by decide) (fun c13 => ?_) (fun c13 => ?_)
    · have hf := ifp hf c13
      refine lv_iconst (v := 0) hx hb dX0_valueIn_25 (by decide) ?_
      refine lv_goto (tgt := 35) hx hb dX0_valueIn_26 (by decide) ?_
      cases hf
      exact rw_iret X dX0_valueIn_35 hP
    · have hf := ifn hf c13
      refine lv_iload_n hx hb dX0_valueIn_16 rfl (hl.at 2 rfl) ?_
      refine rw_aload_n X dX0_valueIn_17 rfl (hl.at 0 rfl) ?_
      obtain ⟨v18, e18, hf⟩ := ob hf
      refine rw_getR X dX0_valueIn_18 fl0_9 e18 rfl hP ?_
      obtain ⟨v21, e21, hf⟩ := ob hf
      refine rw_alen X (by decide) dX0_valueIn_21 e21 hP ?_
      refine lv_icmp_lt hx hb (tgt := 29) dX0_valueIn_22 (by decide) (fun c22 => ?_) (fun c22 => ?_)
      · have hf := ifp hf c22
        refine rw_aload_n X dX0_valueIn_29 rfl (hl.at 0 rfl) ?_
        obtain ⟨v30, e30, hf⟩ := ob hf
        refine rw_getR X dX0_valueIn_30 fl0_9 e30 rfl hP ?_
        refine lv_iload_n hx hb dX0_valueIn_33 rfl (hl.at 2 rfl) ?_
        obtain ⟨v34, e34, hf⟩ := ob hf
        refine rw_iald X dX0_valueIn_34 e34 hP ?_
        cases hf
        exact rw_iret X dX0_valueIn_35 hP
      · have hf := ifn hf c22
        refine lv_iconst (v := 0) hx hb dX0_valueIn_25 (by decide) ?_
        refine lv_goto (tgt := 35) hx hb dX0_valueIn_26 (by decide) ?_
        cases hf
        exact rw_iret X dX0_valueIn_35 hP
  · have hf := ifn hf c1
    refine rw_aload_n X dX0_valueIn_4 rfl (hl.at 1 rfl) ?_
    obtain ⟨v5, e5, hf⟩ := ob hf
    refine rw_getR X dX0_valueIn_5 fl0_21 e5 rfl hP ?_
    obtain ⟨v8, e8, hf⟩ := ob hf
    refine rw_getI X dX0_valueIn_8 fl0_27 e8 rfl hP ?_
    cases hf
    exact rw_iret X dX0_valueIn_11 hP
theorem dX0_put_0 : decode cX0_put 0 = .ok (.aload_n 1, 1) := by decide +kernel
theorem dX0_put_1 : decode cX0_put 1 = .ok (.ifnull 14, 3) := by decide +kernel
theorem dX0_put_4 : decode cX0_put 4 = .ok (.aload_n 1, 1) := by decide +kernel
theorem dX0_put_5 : decode cX0_put 5 = .ok (.getfield 21, 3) := by decide +kernel
theorem dX0_put_8 : decode cX0_put 8 = .ok (.iload_n 3, 1) := by decide +kernel
theorem dX0_put_9 : decode cX0_put 9 = .ok (.putfield 27, 3) := by decide +kernel
theorem dX0_put_12 : decode cX0_put 12 = .ok (.goto 23, 3) := by decide +kernel
theorem dX0_put_15 : decode cX0_put 15 = .ok (.iload_n 2, 1) := by decide +kernel
theorem dX0_put_16 : decode cX0_put 16 = .ok (.ifCond .lt 19, 3) := by decide +kernel
theorem dX0_put_19 : decode cX0_put 19 = .ok (.iload_n 2, 1) := by decide +kernel
theorem dX0_put_20 : decode cX0_put 20 = .ok (.aload_n 0, 1) := by decide +kernel
theorem dX0_put_21 : decode cX0_put 21 = .ok (.getfield 9, 3) := by decide +kernel
theorem dX0_put_24 : decode cX0_put 24 = .ok (.arraylength, 1) := by decide +kernel
theorem dX0_put_25 : decode cX0_put 25 = .ok (.if_icmp .ge 10, 3) := by decide +kernel
theorem dX0_put_28 : decode cX0_put 28 = .ok (.aload_n 0, 1) := by decide +kernel
theorem dX0_put_29 : decode cX0_put 29 = .ok (.getfield 9, 3) := by decide +kernel
theorem dX0_put_32 : decode cX0_put 32 = .ok (.iload_n 2, 1) := by decide +kernel
theorem dX0_put_33 : decode cX0_put 33 = .ok (.iload_n 3, 1) := by decide +kernel
theorem dX0_put_34 : decode cX0_put 34 = .ok (.iastore, 1) := by decide +kernel
theorem dX0_put_35 : decode cX0_put 35 = .ok (.return_, 1) := by decide +kernel
theorem pyX0_put : PY yX0_put 3 := ⟨by decide +kernel, by decide +kernel, by decide +kernel⟩
def fX0_put (Y : LY) (S : HS) (l0 : Option Nat) (l1 : Option Nat) (l2 : Int32) (l3 : Int32) : Option (HS) :=
  if l1 = none then
    if l2 < 0 then
      some S
    else
      (gR Y 0 0 l0 S).bind fun v21 =>
      (aL Y 14 v21).bind fun v24 =>
      if v24 ≤ l2 then
        some S
      else
        (gR Y 0 0 l0 S).bind fun v29 =>
        (pA Y 14 v29 l2 l3 S).bind fun S34 =>
        some S34
  else
    (gR Y 4 403 l1 S).bind fun v5 =>
    (pI Y 3 304 v5 l3 S).bind fun S9 =>
    some S9
set_option maxRecDepth 100000 in
set_option maxHeartbeats 4000000 in
theorem mX0_put (l : Launch) {G : GG} {Y : LY} {S : HS} {l0 : Option Nat} {l1 : Option Nat} {l2 : Int32} {l3 : Int32} {res : HS} (hf : fX0_put Y S l0 l1 l2 l3 = some res) : MM l yX0_put cX0_put 4 none 0 0 G Y S [va_rf l0, va_rf l1, .int l2, .int l3] res none := by
  refine mm_of2 (plainFor_of_name (by decide +kernel)) (Nat.le_of_ble_eq_true rfl) (c1c (cr _) (c1c (cr _) (c1c (ci _) (c1c (ci _) c1n)))) ?_
  intro p e R s m args below meth c X H locs ls hP hl
  have X : Cx p R s m args meth c RX0 cX0_put 4 0 0 (fun q => q ∈ Y.1) G none := X
  have hx := X.1.1
  have hb := X.1.2.1
  have hl : LV ls 4 [(0, va_rf l0), (1, va_rf l1), (2, .int l2), (3, .int l3)] := hl
  unfold fX0_put at hf
  refine rw_aload_n X dX0_put_0 rfl (hl.at 1 rfl) ?_
  refine rw_ifnull X (tgt := 15) dX0_put_1 (by decide) (fun c1 => ?_) (fun c1 => ?_)
  · have hf := ifp hf c1
    refine lv_iload_n hx hb dX0_put_15 rfl (hl.at 2 rfl) ?_
    refine lv_if_lt hx hb (tgt := 35) dX0_put_16 (by decide) (fun c16 => ?_) (fun c16 => ?_)
    · have hf := ifp hf c16
      cases hf
      exact rw_vret X dX0_put_35 hP
    · have hf := ifn hf c16
      refine lv_iload_n hx hb dX0_put_19 rfl (hl.at 2 rfl) ?_
      refine rw_aload_n X dX0_put_20 rfl (hl.at 0 rfl) ?_
      obtain ⟨v21, e21, hf⟩ := ob hf
      refine rw_getR X dX0_put_21 fl0_9 e21 rfl hP ?_
      obtain ⟨v24, e24, hf⟩ := ob hf
      refine rw_alen X (by decide) dX0_put_24 e24 hP ?_
      refine lv_icmp_ge hx hb (tgt := 35) dX0_put_25 (by decide) (fun c25 => ?_) (fun c25 => ?_)
      · have hf := ifp hf c25
        cases hf
        exact rw_vret X dX0_put_35 hP
      · have hf := ifn hf c25
        refine rw_aload_n X dX0_put_28 rfl (hl.at 0 rfl) ?_
        obtain ⟨v29, e29, hf⟩ := ob hf
        refine rw_getR X dX0_put_29 fl0_9 e29 rfl hP ?_
        refine lv_iload_n hx hb dX0_put_32 rfl (hl.at 2 rfl) ?_
        refine lv_iload_n hx hb dX0_put_33 rfl (hl.at 3 rfl) ?_
        obtain ⟨S34, e34, hf⟩ := ob hf
        refine rw_iast X dX0_put_34 e34 hP (fun H locs hP => ?_)
        cases hf
        exact rw_vret X dX0_put_35 hP
  · have hf := ifn hf c1
    refine rw_aload_n X dX0_put_4 rfl (hl.at 1 rfl) ?_
    obtain ⟨v5, e5, hf⟩ := ob hf
    refine rw_getR X dX0_put_5 fl0_21 e5 rfl hP ?_
    refine lv_iload_n hx hb dX0_put_8 rfl (hl.at 3 rfl) ?_
    obtain ⟨S9, e9, hf⟩ := ob hf
    refine rw_putI X dX0_put_9 fl0_27 fw3_4 e9 rfl hP (fun H locs hP => ?_)
    refine lv_goto (tgt := 35) hx hb dX0_put_12 (by decide) ?_
    cases hf
    exact rw_vret X dX0_put_35 hP
theorem dX0_change_0 : decode cX0_change 0 = .ok (.aload_n 0, 1) := by decide +kernel
theorem dX0_change_1 : decode cX0_change 1 = .ok (.aload_n 1, 1) := by decide +kernel
theorem dX0_change_2 : decode cX0_change 2 = .ok (.getfield 33, 3) := by decide +kernel
theorem dX0_change_5 : decode cX0_change 5 = .ok (.aload_n 1, 1) := by decide +kernel
theorem dX0_change_6 : decode cX0_change 6 = .ok (.getfield 39, 3) := by decide +kernel
theorem dX0_change_9 : decode cX0_change 9 = .ok (.invokevirtual 42, 3) := by decide +kernel
theorem dX0_change_12 : decode cX0_change 12 = .ok (.istore_n 2, 1) := by decide +kernel
theorem dX0_change_13 : decode cX0_change 13 = .ok (.aload_n 1, 1) := by decide +kernel
theorem dX0_change_14 : decode cX0_change 14 = .ok (.getfield 46, 3) := by decide +kernel
theorem dX0_change_17 : decode cX0_change 17 = .ok (.lookupswitch 47 #[(43, 27), (45, 37)], 27) := by decide +kernel
theorem dX0_change_44 : decode cX0_change 44 = .ok (.iload_n 2, 1) := by decide +kernel
theorem dX0_change_45 : decode cX0_change 45 = .ok (.aload_n 1, 1) := by decide +kernel
theorem dX0_change_46 : decode cX0_change 46 = .ok (.getfield 50, 3) := by decide +kernel
theorem dX0_change_49 : decode cX0_change 49 = .ok (.iadd, 1) := by decide +kernel
theorem dX0_change_50 : decode cX0_change 50 = .ok (.istore_n 2, 1) := by decide +kernel
theorem dX0_change_51 : decode cX0_change 51 = .ok (.goto 18, 3) := by decide +kernel
theorem dX0_change_54 : decode cX0_change 54 = .ok (.iload_n 2, 1) := by decide +kernel
theorem dX0_change_55 : decode cX0_change 55 = .ok (.aload_n 1, 1) := by decide +kernel
theorem dX0_change_56 : decode cX0_change 56 = .ok (.getfield 50, 3) := by decide +kernel
theorem dX0_change_59 : decode cX0_change 59 = .ok (.isub, 1) := by decide +kernel
theorem dX0_change_60 : decode cX0_change 60 = .ok (.istore_n 2, 1) := by decide +kernel
theorem dX0_change_61 : decode cX0_change 61 = .ok (.goto 8, 3) := by decide +kernel
theorem dX0_change_64 : decode cX0_change 64 = .ok (.aload_n 1, 1) := by decide +kernel
theorem dX0_change_65 : decode cX0_change 65 = .ok (.getfield 50, 3) := by decide +kernel
theorem dX0_change_68 : decode cX0_change 68 = .ok (.istore_n 2, 1) := by decide +kernel
theorem dX0_change_69 : decode cX0_change 69 = .ok (.aload_n 0, 1) := by decide +kernel
theorem dX0_change_70 : decode cX0_change 70 = .ok (.aload_n 1, 1) := by decide +kernel
theorem dX0_change_71 : decode cX0_change 71 = .ok (.getfield 33, 3) := by decide +kernel
theorem dX0_change_74 : decode cX0_change 74 = .ok (.aload_n 1, 1) := by decide +kernel
theorem dX0_change_75 : decode cX0_change 75 = .ok (.getfield 39, 3) := by decide +kernel
theorem dX0_change_78 : decode cX0_change 78 = .ok (.sipush (-999), 3) := by decide +kernel
theorem dX0_change_81 : decode cX0_change 81 = .ok (.sipush 999, 3) := by decide +kernel
theorem dX0_change_84 : decode cX0_change 84 = .ok (.iload_n 2, 1) := by decide +kernel
theorem dX0_change_85 : decode cX0_change 85 = .ok (.invokestatic 53, 3) := by decide +kernel
theorem dX0_change_88 : decode cX0_change 88 = .ok (.invokestatic 59, 3) := by decide +kernel
theorem dX0_change_91 : decode cX0_change 91 = .ok (.invokevirtual 62, 3) := by decide +kernel
theorem dX0_change_94 : decode cX0_change 94 = .ok (.return_, 1) := by decide +kernel
theorem pyX0_change : PY yX0_change 1 := ⟨by decide +kernel, by decide +kernel, by decide +kernel⟩
def fX0_change_69 (Y : LY) (S : HS) (l0 : Option Nat) (l1 : Option Nat) (l2 : Int32) : Option (HS) :=
  (gR Y 1 104 l1 S).bind fun v71 =>
  (gI Y 1 101 l1 S).bind fun v75 =>
  (rcv Y 0 l0).bind fun _ =>
  (fX0_put Y S l0 v71 v75 (jmax (-999) (jmin 999 l2))).bind fun S91 =>
  some S91
set_option maxRecDepth 100000 in
set_option maxHeartbeats 4000000 in
theorem wX0_change_69 {p : Program} {l : Launch} {e : Env} {R : Room} {s : State} {m : MethodId} {args : Array Value} {below : List Frame} {meth : Method} {c : Code} {G : GG} {Y : LY} {res : HS} (X : Cx p R s m args meth c RX0 cX0_change 3 1 30 (fun q => q ∈ Y.1) G none) : ∀ (S : HS) (l0 : Option Nat) (l1 : Option Nat) (l2 : Int32), fX0_change_69 Y S l0 l1 l2 = some res → ∀ (H : Heap) (locs : List Loc) (ls : Array Slot), HP (fun q => q ∈ Y.1) G Y s S H locs → LV ls 3 [(0, va_rf l0), (1, va_rf l1), (2, .int l2)] → W p l e R s m args below meth c H locs 0 0 (MQ below (QI G Y res none) args s 0 0 (fun q => q ∈ Y.1)) (F0 m 69 ls []) := by
  have hx := X.1.1
  have hb := X.1.2.1
  intro S l0 l1 l2 hf H locs ls hP hl
  unfold fX0_change_69 at hf
  refine rw_aload_n X dX0_change_69 rfl (hl.at 0 rfl) ?_
  refine rw_aload_n X dX0_change_70 rfl (hl.at 1 rfl) ?_
  obtain ⟨v71, e71, hf⟩ := ob hf
  refine rw_getR X dX0_change_71 fl0_33 e71 rfl hP ?_
  refine rw_aload_n X dX0_change_74 rfl (hl.at 1 rfl) ?_
  obtain ⟨v75, e75, hf⟩ := ob hf
  refine rw_getI X dX0_change_75 fl0_39 e75 rfl hP ?_
  refine lv_sipush (v := (-999)) hx hb dX0_change_78 (by decide) ?_
  refine lv_sipush (v := 999) hx hb dX0_change_81 (by decide) ?_
  refine lv_iload_n hx hb dX0_change_84 rfl (hl.at 2 rfl) ?_
  refine rv_min X mlX0_53 ⟨Nat.le_of_ble_eq_true rfl, Nat.le_of_ble_eq_true rfl⟩ (c1c (ci _) (c1c (ci _) (c1c (cr _) (c1c (cr _) c1n)))) hl.1.1 dX0_change_85 ?_
  refine rv_max X mlX0_59 ⟨Nat.le_of_ble_eq_true rfl, Nat.le_of_ble_eq_true rfl⟩ (c1c (ci _) (c1c (cr _) (c1c (cr _) c1n))) hl.1.1 dX0_change_88 ?_
  obtain ⟨u91, r91, hf⟩ := ob hf
  obtain ⟨S91, e91, hf⟩ := ob hf
  refine rw_callVv (As := [va_rf v71, .int v75, .int (jmax (-999) (jmin 999 l2))]) X dX0_change_91 clX0_62 pyX0_put (mX0_put l e91) (by decide) r91 rfl hP rfl (catL c1n (Nat.le_of_ble_eq_true rfl)) hl.1.1 (fun H locs hP => ?_)
  cases hf
  exact rw_vret X dX0_change_94 hP
def fX0_change (Y : LY) (S : HS) (l0 : Option Nat) (l1 : Option Nat) : Option (HS) :=
  (gR Y 1 104 l1 S).bind fun v2 =>
  (gI Y 1 101 l1 S).bind fun v6 =>
  (rcv Y 0 l0).bind fun _ =>
  (fX0_valueIn Y S l0 v2 v6).bind fun v9 =>
  (gI Y 1 102 l1 S).bind fun v14 =>
  if v14 = 43 then
    (gI Y 1 103 l1 S).bind fun v46 =>
    fX0_change_69 Y S l0 l1 (v9 + v46)
  else
  if v14 = 45 then
    (gI Y 1 103 l1 S).bind fun v56 =>
    fX0_change_69 Y S l0 l1 (v9 - v56)
  else
  (gI Y 1 103 l1 S).bind fun v65 =>
  fX0_change_69 Y S l0 l1 v65
set_option maxRecDepth 100000 in
set_option maxHeartbeats 4000000 in
theorem mX0_change (l : Launch) {G : GG} {Y : LY} {S : HS} {l0 : Option Nat} {l1 : Option Nat} {res : HS} (hf : fX0_change Y S l0 l1 = some res) : MM l yX0_change cX0_change 3 none 1 30 G Y S [va_rf l0, va_rf l1] res none := by
  refine mm_of2 (plainFor_of_name (by decide +kernel)) (Nat.le_of_ble_eq_true rfl) (c1c (cr _) (c1c (cr _) c1n)) ?_
  intro p e R s m args below meth c X H locs ls hP hl
  have X : Cx p R s m args meth c RX0 cX0_change 3 1 30 (fun q => q ∈ Y.1) G none := X
  have hx := X.1.1
  have hb := X.1.2.1
  have hl : LV ls 3 [(0, va_rf l0), (1, va_rf l1)] := hl
  unfold fX0_change at hf
  refine rw_aload_n X dX0_change_0 rfl (hl.at 0 rfl) ?_
  refine rw_aload_n X dX0_change_1 rfl (hl.at 1 rfl) ?_
  obtain ⟨v2, e2, hf⟩ := ob hf
  refine rw_getR X dX0_change_2 fl0_33 e2 rfl hP ?_
  refine rw_aload_n X dX0_change_5 rfl (hl.at 1 rfl) ?_
  obtain ⟨v6, e6, hf⟩ := ob hf
  refine rw_getI X dX0_change_6 fl0_39 e6 rfl hP ?_
  obtain ⟨u9, r9, hf⟩ := ob hf
  obtain ⟨v9, e9, hf⟩ := ob hf
  refine rw_callVi (As := [va_rf v2, .int v6]) X dX0_change_9 clX0_42 pyX0_valueIn (mX0_valueIn l e9) (by decide) r9 rfl hP rfl (catL c1n (Nat.le_of_ble_eq_true rfl)) hl.1.1 (fun H locs hP => ?_)
  refine rv_istore_n X dX0_change_12 rfl hl (by decide) rfl (fun ls hl => ?_)
  have hl : LV ls 3 [(2, .int v9), (0, va_rf l0), (1, va_rf l1)] := hl
  refine rw_aload_n X dX0_change_13 rfl (hl.at 2 rfl) ?_
  obtain ⟨v14, e14, hf⟩ := ob hf
  refine rw_getI X dX0_change_14 fl0_46 e14 rfl hP ?_
  by_cases c17_0 : v14 = 43
  · have hf := ifp hf c17_0
    refine lv_lookup (tgt := 44) hx hb dX0_change_17 (by decide) (by rw [c17_0]; try rfl) (by decide) ?_
    refine lv_iload_n hx hb dX0_change_44 rfl (hl.at 0 rfl) ?_
    refine rw_aload_n X dX0_change_45 rfl (hl.at 2 rfl) ?_
    obtain ⟨v46, e46, hf⟩ := ob hf
    refine rw_getI X dX0_change_46 fl0_50 e46 rfl hP ?_
    refine lv_iadd hx hb dX0_change_49 ?_
    refine rv_istore_n X dX0_change_50 rfl hl (by decide) rfl (fun ls hl => ?_)
    have hl : LV ls 3 [(2, .int (v9 + v46)), (0, va_rf l0), (1, va_rf l1)] := hl
    refine lv_goto (tgt := 69) hx hb dX0_change_51 (by decide) ?_
    exact wX0_change_69 X S l0 l1 (v9 + v46) hf _ _ _ hP (hl.sub [1, 2, 0] rfl)
  have hf := ifn hf c17_0
  by_cases c17_1 : v14 = 45
  · have hf := ifp hf c17_1
    refine lv_lookup (tgt := 54) hx hb dX0_change_17 (by decide) (by rw [c17_1]; try rfl) (by decide) ?_
    refine lv_iload_n hx hb dX0_change_54 rfl (hl.at 0 rfl) ?_
    refine rw_aload_n X dX0_change_55 rfl (hl.at 2 rfl) ?_
    obtain ⟨v56, e56, hf⟩ := ob hf
    refine rw_getI X dX0_change_56 fl0_50 e56 rfl hP ?_
    refine lv_isub hx hb dX0_change_59 ?_
    refine rv_istore_n X dX0_change_60 rfl hl (by decide) rfl (fun ls hl => ?_)
    have hl : LV ls 3 [(2, .int (v9 - v56)), (0, va_rf l0), (1, va_rf l1)] := hl
    refine lv_goto (tgt := 69) hx hb dX0_change_61 (by decide) ?_
    exact wX0_change_69 X S l0 l1 (v9 - v56) hf _ _ _ hP (hl.sub [1, 2, 0] rfl)
  have hf := ifn hf c17_1
  have t17_0 := tsw (k := 43) (v := 43) (by decide) c17_0
  have t17_1 := tsw (k := 45) (v := 45) (by decide) c17_1
  refine lv_lookup (off := 47) (tgt := 64) hx hb dX0_change_17 (by decide) (by simp [Op.lookupswitch.offset, t17_0.symm, t17_1.symm]) (by decide) ?_
  refine rw_aload_n X dX0_change_64 rfl (hl.at 2 rfl) ?_
  obtain ⟨v65, e65, hf⟩ := ob hf
  refine rw_getI X dX0_change_65 fl0_50 e65 rfl hP ?_
  refine rv_istore_n X dX0_change_68 rfl hl (by decide) rfl (fun ls hl => ?_)
  have hl : LV ls 3 [(2, .int v65), (0, va_rf l0), (1, va_rf l1)] := hl
  exact wX0_change_69 X S l0 l1 v65 hf _ _ _ hP (hl.sub [1, 2, 0] rfl)
theorem dX0_fulfils_0 : decode cX0_fulfils 0 = .ok (.aload_n 0, 1) := by decide +kernel
theorem dX0_fulfils_1 : decode cX0_fulfils 1 = .ok (.aload_n 1, 1) := by decide +kernel
theorem dX0_fulfils_2 : decode cX0_fulfils 2 = .ok (.getfield 33, 3) := by decide +kernel
theorem dX0_fulfils_5 : decode cX0_fulfils 5 = .ok (.aload_n 1, 1) := by decide +kernel
theorem dX0_fulfils_6 : decode cX0_fulfils 6 = .ok (.getfield 39, 3) := by decide +kernel
theorem dX0_fulfils_9 : decode cX0_fulfils 9 = .ok (.invokevirtual 42, 3) := by decide +kernel
theorem dX0_fulfils_12 : decode cX0_fulfils 12 = .ok (.istore_n 2, 1) := by decide +kernel
theorem dX0_fulfils_13 : decode cX0_fulfils 13 = .ok (.aload_n 1, 1) := by decide +kernel
theorem dX0_fulfils_14 : decode cX0_fulfils 14 = .ok (.getfield 46, 3) := by decide +kernel
theorem dX0_fulfils_17 : decode cX0_fulfils 17 = .ok (.lookupswitch 55 #[(60, 27), (62, 41)], 27) := by decide +kernel
theorem dX0_fulfils_44 : decode cX0_fulfils 44 = .ok (.iload_n 2, 1) := by decide +kernel
theorem dX0_fulfils_45 : decode cX0_fulfils 45 = .ok (.aload_n 1, 1) := by decide +kernel
theorem dX0_fulfils_46 : decode cX0_fulfils 46 = .ok (.getfield 50, 3) := by decide +kernel
theorem dX0_fulfils_49 : decode cX0_fulfils 49 = .ok (.if_icmp .ge 7, 3) := by decide +kernel
theorem dX0_fulfils_52 : decode cX0_fulfils 52 = .ok (.iconst 1, 1) := by decide +kernel
theorem dX0_fulfils_53 : decode cX0_fulfils 53 = .ok (.goto 4, 3) := by decide +kernel
theorem dX0_fulfils_56 : decode cX0_fulfils 56 = .ok (.iconst 0, 1) := by decide +kernel
theorem dX0_fulfils_57 : decode cX0_fulfils 57 = .ok (.ireturn, 1) := by decide +kernel
theorem dX0_fulfils_58 : decode cX0_fulfils 58 = .ok (.iload_n 2, 1) := by decide +kernel
theorem dX0_fulfils_59 : decode cX0_fulfils 59 = .ok (.aload_n 1, 1) := by decide +kernel
theorem dX0_fulfils_60 : decode cX0_fulfils 60 = .ok (.getfield 50, 3) := by decide +kernel
theorem dX0_fulfils_63 : decode cX0_fulfils 63 = .ok (.if_icmp .le 7, 3) := by decide +kernel
theorem dX0_fulfils_66 : decode cX0_fulfils 66 = .ok (.iconst 1, 1) := by decide +kernel
theorem dX0_fulfils_67 : decode cX0_fulfils 67 = .ok (.goto 4, 3) := by decide +kernel
theorem dX0_fulfils_70 : decode cX0_fulfils 70 = .ok (.iconst 0, 1) := by decide +kernel
theorem dX0_fulfils_71 : decode cX0_fulfils 71 = .ok (.ireturn, 1) := by decide +kernel
theorem dX0_fulfils_72 : decode cX0_fulfils 72 = .ok (.iload_n 2, 1) := by decide +kernel
theorem dX0_fulfils_73 : decode cX0_fulfils 73 = .ok (.aload_n 1, 1) := by decide +kernel
theorem dX0_fulfils_74 : decode cX0_fulfils 74 = .ok (.getfield 50, 3) := by decide +kernel
theorem dX0_fulfils_77 : decode cX0_fulfils 77 = .ok (.if_icmp .ne 7, 3) := by decide +kernel
theorem dX0_fulfils_80 : decode cX0_fulfils 80 = .ok (.iconst 1, 1) := by decide +kernel
theorem dX0_fulfils_81 : decode cX0_fulfils 81 = .ok (.goto 4, 3) := by decide +kernel
theorem dX0_fulfils_84 : decode cX0_fulfils 84 = .ok (.iconst 0, 1) := by decide +kernel
theorem dX0_fulfils_85 : decode cX0_fulfils 85 = .ok (.ireturn, 1) := by decide +kernel
theorem pyX0_fulfils : PY yX0_fulfils 1 := ⟨by decide +kernel, by decide +kernel, by decide +kernel⟩
def fX0_fulfils (Y : LY) (S : HS) (l0 : Option Nat) (l1 : Option Nat) : Option (Int32) :=
  (gR Y 1 104 l1 S).bind fun v2 =>
  (gI Y 1 101 l1 S).bind fun v6 =>
  (rcv Y 0 l0).bind fun _ =>
  (fX0_valueIn Y S l0 v2 v6).bind fun v9 =>
  (gI Y 1 102 l1 S).bind fun v14 =>
  if v14 = 60 then
    (gI Y 1 103 l1 S).bind fun v46 =>
    if v46 ≤ v9 then
      some 0
    else
      some 1
  else
  if v14 = 62 then
    (gI Y 1 103 l1 S).bind fun v60 =>
    if v9 ≤ v60 then
      some 0
    else
      some 1
  else
  (gI Y 1 103 l1 S).bind fun v74 =>
  if v9 = v74 then
    some 1
  else
    some 0
set_option maxRecDepth 100000 in
set_option maxHeartbeats 4000000 in
theorem mX0_fulfils (l : Launch) {G : GG} {Y : LY} {S : HS} {l0 : Option Nat} {l1 : Option Nat} {res : Int32} (hf : fX0_fulfils Y S l0 l1 = some res) : MM l yX0_fulfils cX0_fulfils 3 (some .boolean) 1 22 G Y S [va_rf l0, va_rf l1] S (some (.int res)) := by
  refine mm_of2 (plainFor_of_name (by decide +kernel)) (Nat.le_of_ble_eq_true rfl) (c1c (cr _) (c1c (cr _) c1n)) ?_
  intro p e R s m args below meth c X H locs ls hP hl
  have X : Cx p R s m args meth c RX0 cX0_fulfils 3 1 22 (fun q => q ∈ Y.1) G (some .boolean) := X
  have hx := X.1.1
  have hb := X.1.2.1
  have hl : LV ls 3 [(0, va_rf l0), (1, va_rf l1)] := hl
  unfold fX0_fulfils at hf
  refine rw_aload_n X dX0_fulfils_0 rfl (hl.at 0 rfl) ?_
  refine rw_aload_n X dX0_fulfils_1 rfl (hl.at 1 rfl) ?_
  obtain ⟨v2, e2, hf⟩ := ob hf
  refine rw_getR X dX0_fulfils_2 fl0_33 e2 rfl hP ?_
  refine rw_aload_n X dX0_fulfils_5 rfl (hl.at 1 rfl) ?_
  obtain ⟨v6, e6, hf⟩ := ob hf
  refine rw_getI X dX0_fulfils_6 fl0_39 e6 rfl hP ?_
  obtain ⟨u9, r9, hf⟩ := ob hf
  obtain ⟨v9, e9, hf⟩ := ob hf
  refine rw_callVi (As := [va_rf v2, .int v6]) X dX0_fulfils_9 clX0_42 pyX0_valueIn (mX0_valueIn l e9) (by decide) r9 rfl hP rfl (catL c1n (Nat.le_of_ble_eq_true rfl)) hl.1.1 (fun H locs hP => ?_)
  refine rv_istore_n X dX0_fulfils_12 rfl hl (by decide) rfl (fun ls hl => ?_)
  have hl : LV ls 3 [(2, .int v9), (0, va_rf l0), (1, va_rf l1)] := hl
  refine rw_aload_n X dX0_fulfils_13 rfl (hl.at 2 rfl) ?_
  obtain ⟨v14, e14, hf⟩ := ob hf
  refine rw_getI X dX0_fulfils_14 fl0_46 e14 rfl hP ?_
  by_cases c17_0 : v14 = 60
  · have hf := ifp hf c17_0
    refine lv_lookup (tgt := 44) hx hb dX0_fulfils_17 (by decide) (by rw [c17_0]; try rfl) (by decide) ?_
    refine lv_iload_n hx hb dX0_fulfils_44 rfl (hl.at 0 rfl) ?_
    refine rw_aload_n X dX0_fulfils_45 rfl (hl.at 2 rfl) ?_
    obtain ⟨v46, e46, hf⟩ := ob hf
    refine rw_getI X dX0_fulfils_46 fl0_50 e46 rfl hP ?_
    refine lv_icmp_ge hx hb (tgt := 56) dX0_fulfils_49 (by decide) (fun c49 => ?_) (fun c49 => ?_)
    · have hf := ifp hf c49
      refine lv_iconst (v := 0) hx hb dX0_fulfils_56 (by decide) ?_
      cases hf
      exact rw_zret X (by decide) dX0_fulfils_57 hP
    · have hf := ifn hf c49
      refine lv_iconst (v := 1) hx hb dX0_fulfils_52 (by decide) ?_
      refine lv_goto (tgt := 57) hx hb dX0_fulfils_53 (by decide) ?_
      cases hf
      exact rw_zret X (by decide) dX0_fulfils_57 hP
  have hf := ifn hf c17_0
  by_cases c17_1 : v14 = 62
  · have hf := ifp hf c17_1
    refine lv_lookup (tgt := 58) hx hb dX0_fulfils_17 (by decide) (by rw [c17_1]; try rfl) (by decide) ?_
    refine lv_iload_n hx hb dX0_fulfils_58 rfl (hl.at 0 rfl) ?_
    refine rw_aload_n X dX0_fulfils_59 rfl (hl.at 2 rfl) ?_
    obtain ⟨v60, e60, hf⟩ := ob hf
    refine rw_getI X dX0_fulfils_60 fl0_50 e60 rfl hP ?_
    refine lv_icmp_le hx hb (tgt := 70) dX0_fulfils_63 (by decide) (fun c63 => ?_) (fun c63 => ?_)
    · have hf := ifp hf c63
      refine lv_iconst (v := 0) hx hb dX0_fulfils_70 (by decide) ?_
      cases hf
      exact rw_zret X (by decide) dX0_fulfils_71 hP
    · have hf := ifn hf c63
      refine lv_iconst (v := 1) hx hb dX0_fulfils_66 (by decide) ?_
      refine lv_goto (tgt := 71) hx hb dX0_fulfils_67 (by decide) ?_
      cases hf
      exact rw_zret X (by decide) dX0_fulfils_71 hP
  have hf := ifn hf c17_1
  have t17_0 := tsw (k := 60) (v := 60) (by decide) c17_0
  have t17_1 := tsw (k := 62) (v := 62) (by decide) c17_1
  refine lv_lookup (off := 55) (tgt := 72) hx hb dX0_fulfils_17 (by decide) (by simp [Op.lookupswitch.offset, t17_0.symm, t17_1.symm]) (by decide) ?_
  refine lv_iload_n hx hb dX0_fulfils_72 rfl (hl.at 0 rfl) ?_
  refine rw_aload_n X dX0_fulfils_73 rfl (hl.at 2 rfl) ?_
  obtain ⟨v74, e74, hf⟩ := ob hf
  refine rw_getI X dX0_fulfils_74 fl0_50 e74 rfl hP ?_
  refine lv_icmp_ne hx hb (tgt := 84) dX0_fulfils_77 (by decide) (fun c77 => ?_) (fun c77 => ?_)
  · have hf := ifn hf c77
    refine lv_iconst (v := 0) hx hb dX0_fulfils_84 (by decide) ?_
    cases hf
    exact rw_zret X (by decide) dX0_fulfils_85 hP
  · have hf := ifp hf c77
    refine lv_iconst (v := 1) hx hb dX0_fulfils_80 (by decide) ?_
    refine lv_goto (tgt := 85) hx hb dX0_fulfils_81 (by decide) ?_
    cases hf
    exact rw_zret X (by decide) dX0_fulfils_85 hP
end
section
/-! printed by wip/whole/gen/gen_parts.py: 12.ledger -/
theorem dX2_clear_0 : decode cX2_clear 0 = .ok (.aload_n 0, 1) := by decide +kernel
theorem dX2_clear_1 : decode cX2_clear 1 = .ok (.aconst_null, 1) := by decide +kernel
theorem dX2_clear_2 : decode cX2_clear 2 = .ok (.putfield 9, 3) := by decide +kernel
theorem dX2_clear_5 : decode cX2_clear 5 = .ok (.aload_n 0, 1) := by decide +kernel
theorem dX2_clear_6 : decode cX2_clear 6 = .ok (.iconst 0, 1) := by decide +kernel
theorem dX2_clear_7 : decode cX2_clear 7 = .ok (.putfield 15, 3) := by decide +kernel
theorem dX2_clear_10 : decode cX2_clear 10 = .ok (.aload_n 0, 1) := by decide +kernel
theorem dX2_clear_11 : decode cX2_clear 11 = .ok (.iconst 0, 1) := by decide +kernel
theorem dX2_clear_12 : decode cX2_clear 12 = .ok (.putfield 19, 3) := by decide +kernel
theorem dX2_clear_15 : decode cX2_clear 15 = .ok (.aload_n 0, 1) := by decide +kernel
theorem dX2_clear_16 : decode cX2_clear 16 = .ok (.iconst 0, 1) := by decide +kernel
theorem dX2_clear_17 : decode cX2_clear 17 = .ok (.putfield 22, 3) := by decide +kernel
theorem dX2_clear_20 : decode cX2_clear 20 = .ok (.aload_n 0, 1) := by decide +kernel
theorem dX2_clear_21 : decode cX2_clear 21 = .ok (.iconst 0, 1) := by decide +kernel
theorem dX2_clear_22 : decode cX2_clear 22 = .ok (.putfield 25, 3) := by decide +kernel
theorem dX2_clear_25 : decode cX2_clear 25 = .ok (.aload_n 0, 1) := by decide +kernel
theorem dX2_clear_26 : decode cX2_clear 26 = .ok (.iconst 0, 1) := by decide +kernel
theorem dX2_clear_27 : decode cX2_clear 27 = .ok (.putfield 28, 3) := by decide +kernel
theorem dX2_clear_30 : decode cX2_clear 30 = .ok (.aload_n 0, 1) := by decide +kernel
theorem dX2_clear_31 : decode cX2_clear 31 = .ok (.iconst 0, 1) := by decide +kernel
theorem dX2_clear_32 : decode cX2_clear 32 = .ok (.putfield 31, 3) := by decide +kernel
theorem dX2_clear_35 : decode cX2_clear 35 = .ok (.aload_n 0, 1) := by decide +kernel
theorem dX2_clear_36 : decode cX2_clear 36 = .ok (.iconst 0, 1) := by decide +kernel
theorem dX2_clear_37 : decode cX2_clear 37 = .ok (.putfield 34, 3) := by decide +kernel
theorem dX2_clear_40 : decode cX2_clear 40 = .ok (.aload_n 0, 1) := by decide +kernel
theorem dX2_clear_41 : decode cX2_clear 41 = .ok (.iconst 0, 1) := by decide +kernel
theorem dX2_clear_42 : decode cX2_clear 42 = .ok (.putfield 37, 3) := by decide +kernel
theorem dX2_clear_45 : decode cX2_clear 45 = .ok (.return_, 1) := by decide +kernel
theorem pyX2_clear : PY yX2_clear 0 := ⟨by decide +kernel, by decide +kernel, by decide +kernel⟩
def fX2_clear (Y : LY) (S : HS) (l0 : Option Nat) : Option (HS) :=
  (pR Y 2 200 l0 none S).bind fun S2 =>
  (pI Y 2 201 l0 0 S2).bind fun S7 =>
  (pI Y 2 202 l0 0 S7).bind fun S12 =>
  (pI Y 2 203 l0 0 S12).bind fun S17 =>
  (pI Y 2 204 l0 0 S17).bind fun S22 =>
  (pI Y 2 205 l0 0 S22).bind fun S27 =>
  (pI Y 2 206 l0 0 S27).bind fun S32 =>
  (pI Y 2 207 l0 0 S32).bind fun S37 =>
  (pI Y 2 208 l0 0 S37).bind fun S42 =>
  some S42
set_option maxRecDepth 100000 in
set_option maxHeartbeats 4000000 in
theorem mX2_clear (l : Launch) {G : GG} {Y : LY} {S : HS} {l0 : Option Nat} {res : HS} (hf : fX2_clear Y S l0 = some res) : MM l yX2_clear cX2_clear 1 none 0 0 G Y S [va_rf l0] res none := by
  refine mm_of2 (plainFor_of_name (by decide +kernel)) (Nat.le_of_ble_eq_true rfl) (c1c (cr _) c1n) ?_
  intro p e R s m args below meth c X H locs ls hP hl
  have X : Cx p R s m args meth c RX2 cX2_clear 1 0 0 (fun q => q ∈ Y.1) G none := X
  have hx := X.1.1
  have hb := X.1.2.1
  have hl : LV ls 1 [(0, va_rf l0)] := hl
  unfold fX2_clear at hf
  refine rw_aload_n X dX2_clear_0 rfl (hl.at 0 rfl) ?_
  refine lv_null hx hb dX2_clear_1 ?_
  refine W.eq (g2 := F0 m 2 ls (va_rf none :: (va_rf l0 :: []))) rfl ?_
  obtain ⟨S2, e2, hf⟩ := ob hf
  refine rw_putR X dX2_clear_2 fl2_9 fw2_0 e2 rfl hP (fun H locs hP => ?_)
  refine rw_aload_n X dX2_clear_5 rfl (hl.at 0 rfl) ?_
  refine lv_iconst (v := 0) hx hb dX2_clear_6 (by decide) ?_
  obtain ⟨S7, e7, hf⟩ := ob hf
  refine rw_putI X dX2_clear_7 fl2_15 fw2_1 e7 rfl hP (fun H locs hP => ?_)
  refine rw_aload_n X dX2_clear_10 rfl (hl.at 0 rfl) ?_
  refine lv_iconst (v := 0) hx hb dX2_clear_11 (by decide) ?_
  obtain ⟨S12, e12, hf⟩ := ob hf
  refine rw_putI X dX2_clear_12 fl2_19 fw2_2 e12 rfl hP (fun H locs hP => ?_)
  refine rw_aload_n X dX2_clear_15 rfl (hl.at 0 rfl) ?_
  refine lv_iconst (v := 0) hx hb dX2_clear_16 (by decide) ?_
  obtain ⟨S17, e17, hf⟩ := ob hf
  refine rw_putI X dX2_clear_17 fl2_22 fw2_3 e17 rfl hP (fun H locs hP => ?_)
  refine rw_aload_n X dX2_clear_20 rfl (hl.at 0 rfl) ?_
  refine lv_iconst (v := 0) hx hb dX2_clear_21 (by decide) ?_
  obtain ⟨S22, e22, hf⟩ := ob hf
  refine rw_putI X dX2_clear_22 fl2_25 fw2_4 e22 rfl hP (fun H locs hP => ?_)
  refine rw_aload_n X dX2_clear_25 rfl (hl.at 0 rfl) ?_
  refine lv_iconst (v := 0) hx hb dX2_clear_26 (by decide) ?_
  obtain ⟨S27, e27, hf⟩ := ob hf
  refine rw_putI X dX2_clear_27 fl2_28 fw2_5 e27 rfl hP (fun H locs hP => ?_)
  refine rw_aload_n X dX2_clear_30 rfl (hl.at 0 rfl) ?_
  refine lv_iconst (v := 0) hx hb dX2_clear_31 (by decide) ?_
  obtain ⟨S32, e32, hf⟩ := ob hf
  refine rw_putI X dX2_clear_32 fl2_31 fw2_6 e32 rfl hP (fun H locs hP => ?_)
  refine rw_aload_n X dX2_clear_35 rfl (hl.at 0 rfl) ?_
  refine lv_iconst (v := 0) hx hb dX2_clear_36 (by decide) ?_
  obtain ⟨S37, e37, hf⟩ := ob hf
  refine rw_putI X dX2_clear_37 fl2_34 fw2_7 e37 rfl hP (fun H locs hP => ?_)
  refine rw_aload_n X dX2_clear_40 rfl (hl.at 0 rfl) ?_
  refine lv_iconst (v := 0) hx hb dX2_clear_41 (by decide) ?_
  obtain ⟨S42, e42, hf⟩ := ob hf
  refine rw_putI X dX2_clear_42 fl2_37 fw2_8 e42 rfl hP (fun H locs hP => ?_)
  cases hf
  exact rw_vret X dX2_clear_45 hP
theorem dX2_copyFrom_0 : decode cX2_copyFrom 0 = .ok (.aload_n 0, 1) := by decide +kernel
theorem dX2_copyFrom_1 : decode cX2_copyFrom 1 = .ok (.aload_n 1, 1) := by decide +kernel
theorem dX2_copyFrom_2 : decode cX2_copyFrom 2 = .ok (.getfield 9, 3) := by decide +kernel
theorem dX2_copyFrom_5 : decode cX2_copyFrom 5 = .ok (.putfield 9, 3) := by decide +kernel
theorem dX2_copyFrom_8 : decode cX2_copyFrom 8 = .ok (.aload_n 0, 1) := by decide +kernel
theorem dX2_copyFrom_9 : decode cX2_copyFrom 9 = .ok (.aload_n 1, 1) := by decide +kernel
theorem dX2_copyFrom_10 : decode cX2_copyFrom 10 = .ok (.getfield 15, 3) := by decide +kernel
theorem dX2_copyFrom_13 : decode cX2_copyFrom 13 = .ok (.putfield 15, 3) := by decide +kernel
theorem dX2_copyFrom_16 : decode cX2_copyFrom 16 = .ok (.aload_n 0, 1) := by decide +kernel
theorem dX2_copyFrom_17 : decode cX2_copyFrom 17 = .ok (.aload_n 1, 1) := by decide +kernel
theorem dX2_copyFrom_18 : decode cX2_copyFrom 18 = .ok (.getfield 19, 3) := by decide +kernel
theorem dX2_copyFrom_21 : decode cX2_copyFrom 21 = .ok (.putfield 19, 3) := by decide +kernel
theorem dX2_copyFrom_24 : decode cX2_copyFrom 24 = .ok (.aload_n 0, 1) := by decide +kernel
theorem dX2_copyFrom_25 : decode cX2_copyFrom 25 = .ok (.aload_n 1, 1) := by decide +kernel
theorem dX2_copyFrom_26 : decode cX2_copyFrom 26 = .ok (.getfield 22, 3) := by decide +kernel
theorem dX2_copyFrom_29 : decode cX2_copyFrom 29 = .ok (.putfield 22, 3) := by decide +kernel
theorem dX2_copyFrom_32 : decode cX2_copyFrom 32 = .ok (.aload_n 0, 1) := by decide +kernel
theorem dX2_copyFrom_33 : decode cX2_copyFrom 33 = .ok (.aload_n 1, 1) := by decide +kernel
theorem dX2_copyFrom_34 : decode cX2_copyFrom 34 = .ok (.getfield 25, 3) := by decide +kernel
theorem dX2_copyFrom_37 : decode cX2_copyFrom 37 = .ok (.putfield 25, 3) := by decide +kernel
theorem dX2_copyFrom_40 : decode cX2_copyFrom 40 = .ok (.aload_n 0, 1) := by decide +kernel
theorem dX2_copyFrom_41 : decode cX2_copyFrom 41 = .ok (.aload_n 1, 1) := by decide +kernel
theorem dX2_copyFrom_42 : decode cX2_copyFrom 42 = .ok (.getfield 28, 3) := by decide +kernel
theorem dX2_copyFrom_45 : decode cX2_copyFrom 45 = .ok (.putfield 28, 3) := by decide +kernel
theorem dX2_copyFrom_48 : decode cX2_copyFrom 48 = .ok (.aload_n 0, 1) := by decide +kernel
theorem dX2_copyFrom_49 : decode cX2_copyFrom 49 = .ok (.aload_n 1, 1) := by decide +kernel
theorem dX2_copyFrom_50 : decode cX2_copyFrom 50 = .ok (.getfield 31, 3) := by decide +kernel
theorem dX2_copyFrom_53 : decode cX2_copyFrom 53 = .ok (.putfield 31, 3) := by decide +kernel
theorem dX2_copyFrom_56 : decode cX2_copyFrom 56 = .ok (.aload_n 0, 1) := by decide +kernel
theorem dX2_copyFrom_57 : decode cX2_copyFrom 57 = .ok (.aload_n 1, 1) := by decide +kernel
theorem dX2_copyFrom_58 : decode cX2_copyFrom 58 = .ok (.getfield 34, 3) := by decide +kernel
theorem dX2_copyFrom_61 : decode cX2_copyFrom 61 = .ok (.putfield 34, 3) := by decide +kernel
theorem dX2_copyFrom_64 : decode cX2_copyFrom 64 = .ok (.aload_n 0, 1) := by decide +kernel
theorem dX2_copyFrom_65 : decode cX2_copyFrom 65 = .ok (.aload_n 1, 1) := by decide +kernel
theorem dX2_copyFrom_66 : decode cX2_copyFrom 66 = .ok (.getfield 37, 3) := by decide +kernel
theorem dX2_copyFrom_69 : decode cX2_copyFrom 69 = .ok (.putfield 37, 3) := by decide +kernel
theorem dX2_copyFrom_72 : decode cX2_copyFrom 72 = .ok (.aload_n 1, 1) := by decide +kernel
theorem dX2_copyFrom_73 : decode cX2_copyFrom 73 = .ok (.getfield 40, 3) := by decide +kernel
theorem dX2_copyFrom_76 : decode cX2_copyFrom 76 = .ok (.iconst 0, 1) := by decide +kernel
theorem dX2_copyFrom_77 : decode cX2_copyFrom 77 = .ok (.aload_n 0, 1) := by decide +kernel
theorem dX2_copyFrom_78 : decode cX2_copyFrom 78 = .ok (.getfield 40, 3) := by decide +kernel
theorem dX2_copyFrom_81 : decode cX2_copyFrom 81 = .ok (.iconst 0, 1) := by decide +kernel
theorem dX2_copyFrom_82 : decode cX2_copyFrom 82 = .ok (.bipush 30, 2) := by decide +kernel
theorem dX2_copyFrom_84 : decode cX2_copyFrom 84 = .ok (.invokestatic 47, 3) := by decide +kernel
theorem dX2_copyFrom_87 : decode cX2_copyFrom 87 = .ok (.aload_n 1, 1) := by decide +kernel
theorem dX2_copyFrom_88 : decode cX2_copyFrom 88 = .ok (.getfield 44, 3) := by decide +kernel
theorem dX2_copyFrom_91 : decode cX2_copyFrom 91 = .ok (.iconst 0, 1) := by decide +kernel
theorem dX2_copyFrom_92 : decode cX2_copyFrom 92 = .ok (.aload_n 0, 1) := by decide +kernel
theorem dX2_copyFrom_93 : decode cX2_copyFrom 93 = .ok (.getfield 44, 3) := by decide +kernel
theorem dX2_copyFrom_96 : decode cX2_copyFrom 96 = .ok (.iconst 0, 1) := by decide +kernel
theorem dX2_copyFrom_97 : decode cX2_copyFrom 97 = .ok (.bipush 30, 2) := by decide +kernel
theorem dX2_copyFrom_99 : decode cX2_copyFrom 99 = .ok (.invokestatic 47, 3) := by decide +kernel
theorem dX2_copyFrom_102 : decode cX2_copyFrom 102 = .ok (.return_, 1) := by decide +kernel
theorem pyX2_copyFrom : PY yX2_copyFrom 1 := ⟨by decide +kernel, by decide +kernel, by decide +kernel⟩
def fX2_copyFrom (Y : LY) (S : HS) (l0 : Option Nat) (l1 : Option Nat) : Option (HS) :=
  (gR Y 2 200 l1 S).bind fun v2 =>
  (pR Y 2 200 l0 v2 S).bind fun S5 =>
  (gI Y 2 201 l1 S5).bind fun v10 =>
  (pI Y 2 201 l0 v10 S5).bind fun S13 =>
  (gI Y 2 202 l1 S13).bind fun v18 =>
  (pI Y 2 202 l0 v18 S13).bind fun S21 =>
  (gI Y 2 203 l1 S21).bind fun v26 =>
  (pI Y 2 203 l0 v26 S21).bind fun S29 =>
  (gI Y 2 204 l1 S29).bind fun v34 =>
  (pI Y 2 204 l0 v34 S29).bind fun S37 =>
  (gI Y 2 205 l1 S37).bind fun v42 =>
  (pI Y 2 205 l0 v42 S37).bind fun S45 =>
  (gI Y 2 206 l1 S45).bind fun v50 =>
  (pI Y 2 206 l0 v50 S45).bind fun S53 =>
  (gI Y 2 207 l1 S53).bind fun v58 =>
  (pI Y 2 207 l0 v58 S53).bind fun S61 =>
  (gI Y 2 208 l1 S61).bind fun v66 =>
  (pI Y 2 208 l0 v66 S61).bind fun S69 =>
  (gR Y 2 209 l1 S69).bind fun v73 =>
  (gR Y 2 209 l0 S69).bind fun v78 =>
  (cpA Y v73 0 v78 0 30 S69).bind fun S84 =>
  (gR Y 2 210 l1 S84).bind fun v88 =>
  (gR Y 2 210 l0 S84).bind fun v93 =>
  (cpA Y v88 0 v93 0 30 S84).bind fun S99 =>
  some S99
set_option maxRecDepth 100000 in
set_option maxHeartbeats 4000000 in
theorem mX2_copyFrom (l : Launch) {G : GG} {Y : LY} {S : HS} {l0 : Option Nat} {l1 : Option Nat} {res : HS} (hf : fX2_copyFrom Y S l0 l1 = some res) : MM l yX2_copyFrom cX2_copyFrom 2 none 1 60 G Y S [va_rf l0, va_rf l1] res none := by
  refine mm_of2 (plainFor_of_name (by decide +kernel)) (Nat.le_of_ble_eq_true rfl) (c1c (cr _) (c1c (cr _) c1n)) ?_
  intro p e R s m args below meth c X H locs ls hP hl
  have X : Cx p R s m args meth c RX2 cX2_copyFrom 2 1 60 (fun q => q ∈ Y.1) G none := X
  have hx := X.1.1
  have hb := X.1.2.1
  have hl : LV ls 2 [(0, va_rf l0), (1, va_rf l1)] := hl
  unfold fX2_copyFrom at hf
  refine rw_aload_n X dX2_copyFrom_0 rfl (hl.at 0 rfl) ?_
  refine rw_aload_n X dX2_copyFrom_1 rfl (hl.at 1 rfl) ?_
  obtain ⟨v2, e2, hf⟩ := ob hf
  refine rw_getR X dX2_copyFrom_2 fl2_9 e2 rfl hP ?_
  obtain ⟨S5, e5, hf⟩ := ob hf
  refine rw_putR X dX2_copyFrom_5 fl2_9 fw2_0 e5 rfl hP (fun H locs hP => ?_)
  refine rw_aload_n X dX2_copyFrom_8 rfl (hl.at 0 rfl) ?_
  refine rw_aload_n X dX2_copyFrom_9 rfl (hl.at 1 rfl) ?_
  obtain ⟨v10, e10, hf⟩ := ob hf
  refine rw_getI X dX2_copyFrom_10 fl2_15 e10 rfl hP ?_
  obtain ⟨S13, e13, hf⟩ := ob hf
  refine rw_putI X dX2_copyFrom_13 fl2_15 fw2_1 e13 rfl hP (fun H locs hP => ?_)
  refine rw_aload_n X dX2_copyFrom_16 rfl (hl.at 0 rfl) ?_
  refine rw_aload_n X dX2_copyFrom_17 rfl (hl.at 1 rfl) ?_
  obtain ⟨v18, e18, hf⟩ := ob hf
  refine rw_getI X dX2_copyFrom_18 fl2_19 e18 rfl hP ?_
  obtain ⟨S21, e21, hf⟩ := ob hf
  refine rw_putI X dX2_copyFrom_21 fl2_19 fw2_2 e21 rfl hP (fun H locs hP => ?_)
  refine rw_aload_n X dX2_copyFrom_24 rfl (hl.at 0 rfl) ?_
  refine rw_aload_n X dX2_copyFrom_25 rfl (hl.at 1 rfl) ?_
  obtain ⟨v26, e26, hf⟩ := ob hf
  refine rw_getI X dX2_copyFrom_26 fl2_22 e26 rfl hP ?_
  obtain ⟨S29, e29, hf⟩ := ob hf
  refine rw_putI X dX2_copyFrom_29 fl2_22 fw2_3 e29 rfl hP (fun H locs hP => ?_)
  refine rw_aload_n X dX2_copyFrom_32 rfl (hl.at 0 rfl) ?_
  refine rw_aload_n X dX2_copyFrom_33 rfl (hl.at 1 rfl) ?_
  obtain ⟨v34, e34, hf⟩ := ob hf
  refine rw_getI X dX2_copyFrom_34 fl2_25 e34 rfl hP ?_
  obtain ⟨S37, e37, hf⟩ := ob hf
  refine rw_putI X dX2_copyFrom_37 fl2_25 fw2_4 e37 rfl hP (fun H locs hP => ?_)
  refine rw_aload_n X dX2_copyFrom_40 rfl (hl.at 0 rfl) ?_
  refine rw_aload_n X dX2_copyFrom_41 rfl (hl.at 1 rfl) ?_
  obtain ⟨v42, e42, hf⟩ := ob hf
  refine rw_getI X dX2_copyFrom_42 fl2_28 e42 rfl hP ?_
  obtain ⟨S45, e45, hf⟩ := ob hf
  refine rw_putI X dX2_copyFrom_45 fl2_28 fw2_5 e45 rfl hP (fun H locs hP => ?_)
  refine rw_aload_n X dX2_copyFrom_48 rfl (hl.at 0 rfl) ?_
  refine rw_aload_n X dX2_copyFrom_49 rfl (hl.at 1 rfl) ?_
  obtain ⟨v50, e50, hf⟩ := ob hf
  refine rw_getI X dX2_copyFrom_50 fl2_31 e50 rfl hP ?_
  obtain ⟨S53, e53, hf⟩ := ob hf
  refine rw_putI X dX2_copyFrom_53 fl2_31 fw2_6 e53 rfl hP (fun H locs hP => ?_)
  refine rw_aload_n X dX2_copyFrom_56 rfl (hl.at 0 rfl) ?_
  refine rw_aload_n X dX2_copyFrom_57 rfl (hl.at 1 rfl) ?_
  obtain ⟨v58, e58, hf⟩ := ob hf
  refine rw_getI X dX2_copyFrom_58 fl2_34 e58 rfl hP ?_
  obtain ⟨S61, e61, hf⟩ := ob hf
  refine rw_putI X dX2_copyFrom_61 fl2_34 fw2_7 e61 rfl hP (fun H locs hP => ?_)
  refine rw_aload_n X dX2_copyFrom_64 rfl (hl.at 0 rfl) ?_
  refine rw_aload_n X dX2_copyFrom_65 rfl (hl.at 1 rfl) ?_
  obtain ⟨v66, e66, hf⟩ := ob hf
  refine rw_getI X dX2_copyFrom_66 fl2_37 e66 rfl hP ?_
  obtain ⟨S69, e69, hf⟩ := ob hf
  refine rw_putI X dX2_copyFrom_69 fl2_37 fw2_8 e69 rfl hP (fun H locs hP => ?_)
  refine rw_aload_n X dX2_copyFrom_72 rfl (hl.at 1 rfl) ?_
  obtain ⟨v73, e73, hf⟩ := ob hf
  refine rw_getR X dX2_copyFrom_73 fl2_40 e73 rfl hP ?_
  refine lv_iconst (v := 0) hx hb dX2_copyFrom_76 (by decide) ?_
  refine rw_aload_n X dX2_copyFrom_77 rfl (hl.at 0 rfl) ?_
  obtain ⟨v78, e78, hf⟩ := ob hf
  refine rw_getR X dX2_copyFrom_78 fl2_40 e78 rfl hP ?_
  refine lv_iconst (v := 0) hx hb dX2_copyFrom_81 (by decide) ?_
  refine lv_bipush (v := 30) hx hb dX2_copyFrom_82 (by decide) ?_
  obtain ⟨S84, e84, hf⟩ := ob hf
  refine rv_copy X mlX2_47 e84 (by decide +kernel) hl.1.1 dX2_copyFrom_84 hP (fun H locs hP => ?_)
  refine rw_aload_n X dX2_copyFrom_87 rfl (hl.at 1 rfl) ?_
  obtain ⟨v88, e88, hf⟩ := ob hf
  refine rw_getR X dX2_copyFrom_88 fl2_44 e88 rfl hP ?_
  refine lv_iconst (v := 0) hx hb dX2_copyFrom_91 (by decide) ?_
  refine rw_aload_n X dX2_copyFrom_92 rfl (hl.at 0 rfl) ?_
  obtain ⟨v93, e93, hf⟩ := ob hf
  refine rw_getR X dX2_copyFrom_93 fl2_44 e93 rfl hP ?_
  refine lv_iconst (v := 0) hx hb dX2_copyFrom_96 (by decide) ?_
  refine lv_bipush (v := 30) hx hb dX2_copyFrom_97 (by decide) ?_
  obtain ⟨S99, e99, hf⟩ := ob hf
  refine rv_copy X mlX2_47 e99 (by decide +kernel) hl.1.1 dX2_copyFrom_99 hP (fun H locs hP => ?_)
  cases hf
  exact rw_vret X dX2_copyFrom_102 hP
theorem dX2_endTick_0 : decode cX2_endTick 0 = .ok (.aload_n 0, 1) := by decide +kernel
theorem dX2_endTick_1 : decode cX2_endTick 1 = .ok (.dup, 1) := by decide +kernel
theorem dX2_endTick_2 : decode cX2_endTick 2 = .ok (.getfield 15, 3) := by decide +kernel
theorem dX2_endTick_5 : decode cX2_endTick 5 = .ok (.iconst 1, 1) := by decide +kernel
theorem dX2_endTick_6 : decode cX2_endTick 6 = .ok (.iadd, 1) := by decide +kernel
theorem dX2_endTick_7 : decode cX2_endTick 7 = .ok (.putfield 15, 3) := by decide +kernel
theorem dX2_endTick_10 : decode cX2_endTick 10 = .ok (.aload_n 0, 1) := by decide +kernel
theorem dX2_endTick_11 : decode cX2_endTick 11 = .ok (.dup, 1) := by decide +kernel
theorem dX2_endTick_12 : decode cX2_endTick 12 = .ok (.getfield 19, 3) := by decide +kernel
theorem dX2_endTick_15 : decode cX2_endTick 15 = .ok (.iload_n 1, 1) := by decide +kernel
theorem dX2_endTick_16 : decode cX2_endTick 16 = .ok (.iconst 2, 1) := by decide +kernel
theorem dX2_endTick_17 : decode cX2_endTick 17 = .ok (.if_icmp .ne 7, 3) := by decide +kernel
theorem dX2_endTick_20 : decode cX2_endTick 20 = .ok (.iconst 1, 1) := by decide +kernel
theorem dX2_endTick_21 : decode cX2_endTick 21 = .ok (.goto 4, 3) := by decide +kernel
theorem dX2_endTick_24 : decode cX2_endTick 24 = .ok (.iconst 0, 1) := by decide +kernel
theorem dX2_endTick_25 : decode cX2_endTick 25 = .ok (.iadd, 1) := by decide +kernel
theorem dX2_endTick_26 : decode cX2_endTick 26 = .ok (.putfield 19, 3) := by decide +kernel
theorem dX2_endTick_29 : decode cX2_endTick 29 = .ok (.aload_n 0, 1) := by decide +kernel
theorem dX2_endTick_30 : decode cX2_endTick 30 = .ok (.dup, 1) := by decide +kernel
theorem dX2_endTick_31 : decode cX2_endTick 31 = .ok (.getfield 22, 3) := by decide +kernel
theorem dX2_endTick_34 : decode cX2_endTick 34 = .ok (.iload_n 1, 1) := by decide +kernel
theorem dX2_endTick_35 : decode cX2_endTick 35 = .ok (.iconst 3, 1) := by decide +kernel
theorem dX2_endTick_36 : decode cX2_endTick 36 = .ok (.if_icmp .ne 7, 3) := by decide +kernel
theorem dX2_endTick_39 : decode cX2_endTick 39 = .ok (.iconst 1, 1) := by decide +kernel
theorem dX2_endTick_40 : decode cX2_endTick 40 = .ok (.goto 4, 3) := by decide +kernel
theorem dX2_endTick_43 : decode cX2_endTick 43 = .ok (.iconst 0, 1) := by decide +kernel
theorem dX2_endTick_44 : decode cX2_endTick 44 = .ok (.iadd, 1) := by decide +kernel
theorem dX2_endTick_45 : decode cX2_endTick 45 = .ok (.putfield 22, 3) := by decide +kernel
theorem dX2_endTick_48 : decode cX2_endTick 48 = .ok (.return_, 1) := by decide +kernel
theorem pyX2_endTick : PY yX2_endTick 1 := ⟨by decide +kernel, by decide +kernel, by decide +kernel⟩
def fX2_endTick_25 (Y : LY) (S : HS) (l0 : Option Nat) (l1 : Int32) (s0 : Option Nat) (s1 : Int32) (s2 : Int32) : Option (HS) :=
  (pI Y 2 202 s0 (s1 + s2) S).bind fun S26 =>
  (gI Y 2 203 l0 S26).bind fun v31 =>
  if l1 = 3 then
    (pI Y 2 203 l0 (v31 + 1) S26).bind fun S45 =>
    some S45
  else
    (pI Y 2 203 l0 (v31 + 0) S26).bind fun S45 =>
    some S45
set_option maxRecDepth 100000 in
set_option maxHeartbeats 4000000 in
theorem wX2_endTick_25 {p : Program} {l : Launch} {e : Env} {R : Room} {s : State} {m : MethodId} {args : Array Value} {below : List Frame} {meth : Method} {c : Code} {G : GG} {Y : LY} {res : HS} (X : Cx p R s m args meth c RX2 cX2_endTick 2 0 0 (fun q => q ∈ Y.1) G none) : ∀ (S : HS) (l0 : Option Nat) (l1 : Int32) (s0 : Option Nat) (s1 : Int32) (s2 : Int32), fX2_endTick_25 Y S l0 l1 s0 s1 s2 = some res → ∀ (H : Heap) (locs : List Loc) (ls : Array Slot), HP (fun q => q ∈ Y.1) G Y s S H locs → LV ls 2 [(0, va_rf l0), (1, .int l1)] → W p l e R s m args below meth c H locs 0 0 (MQ below (QI G Y res none) args s 0 0 (fun q => q ∈ Y.1)) (F0 m 25 ls (.int s2 :: (.int s1 :: (va_rf s0 :: [])))) := by
  have hx := X.1.1
  have hb := X.1.2.1
  intro S l0 l1 s0 s1 s2 hf H locs ls hP hl
  unfold fX2_endTick_25 at hf
  refine lv_iadd hx hb dX2_endTick_25 ?_
  obtain ⟨S26, e26, hf⟩ := ob hf
  refine rw_putI X dX2_endTick_26 fl2_19 fw2_2 e26 rfl hP (fun H locs hP => ?_)
  refine rw_aload_n X dX2_endTick_29 rfl (hl.at 0 rfl) ?_
  refine lv_dup hx hb dX2_endTick_30 (cr _) ?_
  obtain ⟨v31, e31, hf⟩ := ob hf
  refine rw_getI X dX2_endTick_31 fl2_22 e31 rfl hP ?_
  refine lv_iload_n hx hb dX2_endTick_34 rfl (hl.at 1 rfl) ?_
  refine lv_iconst (v := 3) hx hb dX2_endTick_35 (by decide) ?_
  refine lv_icmp_ne hx hb (tgt := 43) dX2_endTick_36 (by decide) (fun c36 => ?_) (fun c36 => ?_)
  · have hf := ifn hf c36
    refine lv_iconst (v := 0) hx hb dX2_endTick_43 (by decide) ?_
    refine lv_iadd hx hb dX2_endTick_44 ?_
    obtain ⟨S45, e45, hf⟩ := ob hf
    refine rw_putI X dX2_endTick_45 fl2_22 fw2_3 e45 rfl hP (fun H locs hP => ?_)
    cases hf
    exact rw_vret X dX2_endTick_48 hP
  · have hf := ifp hf c36
    refine lv_iconst (v := 1) hx hb dX2_endTick_39 (by decide) ?_
    refine lv_goto (tgt := 44) hx hb dX2_endTick_40 (by decide) ?_
    refine lv_iadd hx hb dX2_endTick_44 ?_
    obtain ⟨S45, e45, hf⟩ := ob hf
    refine rw_putI X dX2_endTick_45 fl2_22 fw2_3 e45 rfl hP (fun H locs hP => ?_)
    cases hf
    exact rw_vret X dX2_endTick_48 hP
def fX2_endTick (Y : LY) (S : HS) (l0 : Option Nat) (l1 : Int32) : Option (HS) :=
  (gI Y 2 201 l0 S).bind fun v2 =>
  (pI Y 2 201 l0 (v2 + 1) S).bind fun S7 =>
  (gI Y 2 202 l0 S7).bind fun v12 =>
  if l1 = 2 then
    fX2_endTick_25 Y S7 l0 l1 l0 v12 1
  else
    fX2_endTick_25 Y S7 l0 l1 l0 v12 0
set_option maxRecDepth 100000 in
set_option maxHeartbeats 4000000 in
theorem mX2_endTick (l : Launch) {G : GG} {Y : LY} {S : HS} {l0 : Option Nat} {l1 : Int32} {res : HS} (hf : fX2_endTick Y S l0 l1 = some res) : MM l yX2_endTick cX2_endTick 2 none 0 0 G Y S [va_rf l0, .int l1] res none := by
  refine mm_of2 (plainFor_of_name (by decide +kernel)) (Nat.le_of_ble_eq_true rfl) (c1c (cr _) (c1c (ci _) c1n)) ?_
  intro p e R s m args below meth c X H locs ls hP hl
  have X : Cx p R s m args meth c RX2 cX2_endTick 2 0 0 (fun q => q ∈ Y.1) G none := X
  have hx := X.1.1
  have hb := X.1.2.1
  have hl : LV ls 2 [(0, va_rf l0), (1, .int l1)] := hl
  unfold fX2_endTick at hf
  refine rw_aload_n X dX2_endTick_0 rfl (hl.at 0 rfl) ?_
  refine lv_dup hx hb dX2_endTick_1 (cr _) ?_
  obtain ⟨v2, e2, hf⟩ := ob hf
  refine rw_getI X dX2_endTick_2 fl2_15 e2 rfl hP ?_
  refine lv_iconst (v := 1) hx hb dX2_endTick_5 (by decide) ?_
  refine lv_iadd hx hb dX2_endTick_6 ?_
  obtain ⟨S7, e7, hf⟩ := ob hf
  refine rw_putI X dX2_endTick_7 fl2_15 fw2_1 e7 rfl hP (fun H locs hP => ?_)
  refine rw_aload_n X dX2_endTick_10 rfl (hl.at 0 rfl) ?_
  refine lv_dup hx hb dX2_endTick_11 (cr _) ?_
  obtain ⟨v12, e12, hf⟩ := ob hf
  refine rw_getI X dX2_endTick_12 fl2_19 e12 rfl hP ?_
  refine lv_iload_n hx hb dX2_endTick_15 rfl (hl.at 1 rfl) ?_
  refine lv_iconst (v := 2) hx hb dX2_endTick_16 (by decide) ?_
  refine lv_icmp_ne hx hb (tgt := 24) dX2_endTick_17 (by decide) (fun c17 => ?_) (fun c17 => ?_)
  · have hf := ifn hf c17
    refine lv_iconst (v := 0) hx hb dX2_endTick_24 (by decide) ?_
    exact wX2_endTick_25 X S7 l0 l1 l0 v12 0 hf _ _ _ hP (hl.sub [0, 1] rfl)
  · have hf := ifp hf c17
    refine lv_iconst (v := 1) hx hb dX2_endTick_20 (by decide) ?_
    refine lv_goto (tgt := 25) hx hb dX2_endTick_21 (by decide) ?_
    exact wX2_endTick_25 X S7 l0 l1 l0 v12 1 hf _ _ _ hP (hl.sub [0, 1] rfl)
theorem dX2_enter_0 : decode cX2_enter 0 = .ok (.aload_n 0, 1) := by decide +kernel
theorem dX2_enter_1 : decode cX2_enter 1 = .ok (.getfield 37, 3) := by decide +kernel
theorem dX2_enter_4 : decode cX2_enter 4 = .ok (.bipush 30, 2) := by decide +kernel
theorem dX2_enter_6 : decode cX2_enter 6 = .ok (.invokestatic 53, 3) := by decide +kernel
theorem dX2_enter_9 : decode cX2_enter 9 = .ok (.istore_n 3, 1) := by decide +kernel
theorem dX2_enter_10 : decode cX2_enter 10 = .ok (.aload_n 0, 1) := by decide +kernel
theorem dX2_enter_11 : decode cX2_enter 11 = .ok (.getfield 40, 3) := by decide +kernel
theorem dX2_enter_14 : decode cX2_enter 14 = .ok (.iload_n 3, 1) := by decide +kernel
theorem dX2_enter_15 : decode cX2_enter 15 = .ok (.aload_n 1, 1) := by decide +kernel
theorem dX2_enter_16 : decode cX2_enter 16 = .ok (.getfield 59, 3) := by decide +kernel
theorem dX2_enter_19 : decode cX2_enter 19 = .ok (.iastore, 1) := by decide +kernel
theorem dX2_enter_20 : decode cX2_enter 20 = .ok (.aload_n 0, 1) := by decide +kernel
theorem dX2_enter_21 : decode cX2_enter 21 = .ok (.getfield 44, 3) := by decide +kernel
theorem dX2_enter_24 : decode cX2_enter 24 = .ok (.iload_n 3, 1) := by decide +kernel
theorem dX2_enter_25 : decode cX2_enter 25 = .ok (.iload_n 2, 1) := by decide +kernel
theorem dX2_enter_26 : decode cX2_enter 26 = .ok (.iastore, 1) := by decide +kernel
theorem dX2_enter_27 : decode cX2_enter 27 = .ok (.aload_n 0, 1) := by decide +kernel
theorem dX2_enter_28 : decode cX2_enter 28 = .ok (.dup, 1) := by decide +kernel
theorem dX2_enter_29 : decode cX2_enter 29 = .ok (.getfield 37, 3) := by decide +kernel
theorem dX2_enter_32 : decode cX2_enter 32 = .ok (.iconst 1, 1) := by decide +kernel
theorem dX2_enter_33 : decode cX2_enter 33 = .ok (.iadd, 1) := by decide +kernel
theorem dX2_enter_34 : decode cX2_enter 34 = .ok (.putfield 37, 3) := by decide +kernel
theorem dX2_enter_37 : decode cX2_enter 37 = .ok (.return_, 1) := by decide +kernel
theorem pyX2_enter : PY yX2_enter 2 := ⟨by decide +kernel, by decide +kernel, by decide +kernel⟩
def fX2_enter (Y : LY) (S : HS) (l0 : Option Nat) (l1 : Option Nat) (l2 : Int32) : Option (HS) :=
  (gI Y 2 208 l0 S).bind fun v1 =>
  (fJ9_floorMod_7cf53 Y S v1 30).bind fun v6 =>
  (gR Y 2 209 l0 S).bind fun v11 =>
  (gI Y 4 400 l1 S).bind fun v16 =>
  (pA Y 14 v11 v6 v16 S).bind fun S19 =>
  (gR Y 2 210 l0 S19).bind fun v21 =>
  (pA Y 14 v21 v6 l2 S19).bind fun S26 =>
  (gI Y 2 208 l0 S26).bind fun v29 =>
  (pI Y 2 208 l0 (v29 + 1) S26).bind fun S34 =>
  some S34
set_option maxRecDepth 100000 in
set_option maxHeartbeats 4000000 in
theorem mX2_enter (l : Launch) {G : GG} {Y : LY} {S : HS} {l0 : Option Nat} {l1 : Option Nat} {l2 : Int32} {res : HS} (hf : fX2_enter Y S l0 l1 l2 = some res) : MM l yX2_enter cX2_enter 4 none 1 22 G Y S [va_rf l0, va_rf l1, .int l2] res none := by
  refine mm_of2 (plainFor_of_name (by decide +kernel)) (Nat.le_of_ble_eq_true rfl) (c1c (cr _) (c1c (cr _) (c1c (ci _) c1n))) ?_
  intro p e R s m args below meth c X H locs ls hP hl
  have X : Cx p R s m args meth c RX2 cX2_enter 4 1 22 (fun q => q ∈ Y.1) G none := X
  have hx := X.1.1
  have hb := X.1.2.1
  have hl : LV ls 4 [(0, va_rf l0), (1, va_rf l1), (2, .int l2)] := hl
  unfold fX2_enter at hf
  refine rw_aload_n X dX2_enter_0 rfl (hl.at 0 rfl) ?_
  obtain ⟨v1, e1, hf⟩ := ob hf
  refine rw_getI X dX2_enter_1 fl2_37 e1 rfl hP ?_
  refine lv_bipush (v := 30) hx hb dX2_enter_4 (by decide) ?_
  obtain ⟨v6, e6, hf⟩ := ob hf
  refine rw_callSi (As := [.int v1, .int 30]) X dX2_enter_6 clX2_53 pyJ9_floorMod_7cf53 (mJ9_floorMod_7cf53 l e6) (by decide) hP rfl (catL c1n (Nat.le_of_ble_eq_true rfl)) hl.1.1 (fun H locs hP => ?_)
  refine rv_istore_n X dX2_enter_9 rfl hl (by decide) rfl (fun ls hl => ?_)
  have hl : LV ls 4 [(3, .int v6), (0, va_rf l0), (1, va_rf l1), (2, .int l2)] := hl
  refine rw_aload_n X dX2_enter_10 rfl (hl.at 1 rfl) ?_
  obtain ⟨v11, e11, hf⟩ := ob hf
  refine rw_getR X dX2_enter_11 fl2_40 e11 rfl hP ?_
  refine lv_iload_n hx hb dX2_enter_14 rfl (hl.at 0 rfl) ?_
  refine rw_aload_n X dX2_enter_15 rfl (hl.at 2 rfl) ?_
  obtain ⟨v16, e16, hf⟩ := ob hf
  refine rw_getI X dX2_enter_16 fl2_59 e16 rfl hP ?_
  obtain ⟨S19, e19, hf⟩ := ob hf
  refine rw_iast X dX2_enter_19 e19 hP (fun H locs hP => ?_)
  refine rw_aload_n X dX2_enter_20 rfl (hl.at 1 rfl) ?_
  obtain ⟨v21, e21, hf⟩ := ob hf
  refine rw_getR X dX2_enter_21 fl2_44 e21 rfl hP ?_
  refine lv_iload_n hx hb dX2_enter_24 rfl (hl.at 0 rfl) ?_
  refine lv_iload_n hx hb dX2_enter_25 rfl (hl.at 3 rfl) ?_
  obtain ⟨S26, e26, hf⟩ := ob hf
  refine rw_iast X dX2_enter_26 e26 hP (fun H locs hP => ?_)
  refine rw_aload_n X dX2_enter_27 rfl (hl.at 1 rfl) ?_
  refine lv_dup hx hb dX2_enter_28 (cr _) ?_
  obtain ⟨v29, e29, hf⟩ := ob hf
  refine rw_getI X dX2_enter_29 fl2_37 e29 rfl hP ?_
  refine lv_iconst (v := 1) hx hb dX2_enter_32 (by decide) ?_
  refine lv_iadd hx hb dX2_enter_33 ?_
  obtain ⟨S34, e34, hf⟩ := ob hf
  refine rw_putI X dX2_enter_34 fl2_37 fw2_8 e34 rfl hP (fun H locs hP => ?_)
  cases hf
  exact rw_vret X dX2_enter_37 hP
theorem dX2_entries_0 : decode cX2_entries 0 = .ok (.aload_n 0, 1) := by decide +kernel
theorem dX2_entries_1 : decode cX2_entries 1 = .ok (.getfield 37, 3) := by decide +kernel
theorem dX2_entries_4 : decode cX2_entries 4 = .ok (.bipush 30, 2) := by decide +kernel
theorem dX2_entries_6 : decode cX2_entries 6 = .ok (.invokestatic 64, 3) := by decide +kernel
theorem dX2_entries_9 : decode cX2_entries 9 = .ok (.ireturn, 1) := by decide +kernel
theorem pyX2_entries : PY yX2_entries 0 := ⟨by decide +kernel, by decide +kernel, by decide +kernel⟩
def fX2_entries (Y : LY) (S : HS) (l0 : Option Nat) : Option (Int32) :=
  (gI Y 2 208 l0 S).bind fun v1 =>
  some (jmin v1 30)
set_option maxRecDepth 100000 in
set_option maxHeartbeats 4000000 in
theorem mX2_entries (l : Launch) {G : GG} {Y : LY} {S : HS} {l0 : Option Nat} {res : Int32} (hf : fX2_entries Y S l0 = some res) : MM l yX2_entries cX2_entries 1 (some .int) 1 30 G Y S [va_rf l0] S (some (.int res)) := by
  refine mm_of2 (plainFor_of_name (by decide +kernel)) (Nat.le_of_ble_eq_true rfl) (c1c (cr _) c1n) ?_
  intro p e R s m args below meth c X H locs ls hP hl
  have X : Cx p R s m args meth c RX2 cX2_entries 1 1 30 (fun q => q ∈ Y.1) G (some .int) := X
  have hx := X.1.1
  have hb := X.1.2.1
  have hl : LV ls 1 [(0, va_rf l0)] := hl
  unfold fX2_entries at hf
  refine rw_aload_n X dX2_entries_0 rfl (hl.at 0 rfl) ?_
  obtain ⟨v1, e1, hf⟩ := ob hf
  refine rw_getI X dX2_entries_1 fl2_37 e1 rfl hP ?_
  refine lv_bipush (v := 30) hx hb dX2_entries_4 (by decide) ?_
  refine rv_min X mlX2_64 ⟨Nat.le_of_ble_eq_true rfl, Nat.le_of_ble_eq_true rfl⟩ c1n hl.1.1 dX2_entries_6 ?_
  cases hf
  exact rw_iret X dX2_entries_9 hP
theorem dX2_placeOf_0 : decode cX2_placeOf 0 = .ok (.aload_n 0, 1) := by decide +kernel
theorem dX2_placeOf_1 : decode cX2_placeOf 1 = .ok (.getfield 37, 3) := by decide +kernel
theorem dX2_placeOf_4 : decode cX2_placeOf 4 = .ok (.iconst 1, 1) := by decide +kernel
theorem dX2_placeOf_5 : decode cX2_placeOf 5 = .ok (.isub, 1) := by decide +kernel
theorem dX2_placeOf_6 : decode cX2_placeOf 6 = .ok (.iload_n 1, 1) := by decide +kernel
theorem dX2_placeOf_7 : decode cX2_placeOf 7 = .ok (.isub, 1) := by decide +kernel
theorem dX2_placeOf_8 : decode cX2_placeOf 8 = .ok (.bipush 30, 2) := by decide +kernel
theorem dX2_placeOf_10 : decode cX2_placeOf 10 = .ok (.invokestatic 53, 3) := by decide +kernel
theorem dX2_placeOf_13 : decode cX2_placeOf 13 = .ok (.ireturn, 1) := by decide +kernel
theorem pyX2_placeOf : PY yX2_placeOf 1 := ⟨by decide +kernel, by decide +kernel, by decide +kernel⟩
def fX2_placeOf (Y : LY) (S : HS) (l0 : Option Nat) (l1 : Int32) : Option (Int32) :=
  (gI Y 2 208 l0 S).bind fun v1 =>
  (fJ9_floorMod_7cf53 Y S ((v1 - 1) - l1) 30).bind fun v10 =>
  some v10
set_option maxRecDepth 100000 in
set_option maxHeartbeats 4000000 in
theorem mX2_placeOf (l : Launch) {G : GG} {Y : LY} {S : HS} {l0 : Option Nat} {l1 : Int32} {res : Int32} (hf : fX2_placeOf Y S l0 l1 = some res) : MM l yX2_placeOf cX2_placeOf 2 (some .int) 1 22 G Y S [va_rf l0, .int l1] S (some (.int res)) := by
  refine mm_of2 (plainFor_of_name (by decide +kernel)) (Nat.le_of_ble_eq_true rfl) (c1c (cr _) (c1c (ci _) c1n)) ?_
  intro p e R s m args below meth c X H locs ls hP hl
  have X : Cx p R s m args meth c RX2 cX2_placeOf 2 1 22 (fun q => q ∈ Y.1) G (some .int) := X
  have hx := X.1.1
  have hb := X.1.2.1
  have hl : LV ls 2 [(0, va_rf l0), (1, .int l1)] := hl
  unfold fX2_placeOf at hf
  refine rw_aload_n X dX2_placeOf_0 rfl (hl.at 0 rfl) ?_
  obtain ⟨v1, e1, hf⟩ := ob hf
  refine rw_getI X dX2_placeOf_1 fl2_37 e1 rfl hP ?_
  refine lv_iconst (v := 1) hx hb dX2_placeOf_4 (by decide) ?_
  refine lv_isub hx hb dX2_placeOf_5 ?_
  refine lv_iload_n hx hb dX2_placeOf_6 rfl (hl.at 1 rfl) ?_
  refine lv_isub hx hb dX2_placeOf_7 ?_
  refine lv_bipush (v := 30) hx hb dX2_placeOf_8 (by decide) ?_
  obtain ⟨v10, e10, hf⟩ := ob hf
  refine rw_callSi (As := [.int ((v1 - 1) - l1), .int 30]) X dX2_placeOf_10 clX2_53 pyJ9_floorMod_7cf53 (mJ9_floorMod_7cf53 l e10) (by decide) hP rfl (catL c1n (Nat.le_of_ble_eq_true rfl)) hl.1.1 (fun H locs hP => ?_)
  cases hf
  exact rw_iret X dX2_placeOf_13 hP
theorem dX2_tracedNode_0 : decode cX2_tracedNode 0 = .ok (.aload_n 0, 1) := by decide +kernel
theorem dX2_tracedNode_1 : decode cX2_tracedNode 1 = .ok (.getfield 40, 3) := by decide +kernel
theorem dX2_tracedNode_4 : decode cX2_tracedNode 4 = .ok (.aload_n 0, 1) := by decide +kernel
theorem dX2_tracedNode_5 : decode cX2_tracedNode 5 = .ok (.iload_n 1, 1) := by decide +kernel
theorem dX2_tracedNode_6 : decode cX2_tracedNode 6 = .ok (.invokevirtual 67, 3) := by decide +kernel
theorem dX2_tracedNode_9 : decode cX2_tracedNode 9 = .ok (.iaload, 1) := by decide +kernel
theorem dX2_tracedNode_10 : decode cX2_tracedNode 10 = .ok (.ireturn, 1) := by decide +kernel
theorem pyX2_tracedNode : PY yX2_tracedNode 1 := ⟨by decide +kernel, by decide +kernel, by decide +kernel⟩
def fX2_tracedNode (Y : LY) (S : HS) (l0 : Option Nat) (l1 : Int32) : Option (Int32) :=
  (gR Y 2 209 l0 S).bind fun v1 =>
  (rcv Y 2 l0).bind fun _ =>
  (fX2_placeOf Y S l0 l1).bind fun v6 =>
  (gA Y 14 v1 v6 S).bind fun v9 =>
  some v9
set_option maxRecDepth 100000 in
set_option maxHeartbeats 4000000 in
theorem mX2_tracedNode (l : Launch) {G : GG} {Y : LY} {S : HS} {l0 : Option Nat} {l1 : Int32} {res : Int32} (hf : fX2_tracedNode Y S l0 l1 = some res) : MM l yX2_tracedNode cX2_tracedNode 2 (some .int) 2 43 G Y S [va_rf l0, .int l1] S (some (.int res)) := by
  refine mm_of2 (plainFor_of_name (by decide +kernel)) (Nat.le_of_ble_eq_true rfl) (c1c (cr _) (c1c (ci _) c1n)) ?_
  intro p e R s m args below meth c X H locs ls hP hl
  have X : Cx p R s m args meth c RX2 cX2_tracedNode 2 2 43 (fun q => q ∈ Y.1) G (some .int) := X
  have hx := X.1.1
  have hb := X.1.2.1
  have hl : LV ls 2 [(0, va_rf l0), (1, .int l1)] := hl
  unfold fX2_tracedNode at hf
  refine rw_aload_n X dX2_tracedNode_0 rfl (hl.at 0 rfl) ?_
  obtain ⟨v1, e1, hf⟩ := ob hf
  refine rw_getR X dX2_tracedNode_1 fl2_40 e1 rfl hP ?_
  refine rw_aload_n X dX2_tracedNode_4 rfl (hl.at 0 rfl) ?_
  refine lv_iload_n hx hb dX2_tracedNode_5 rfl (hl.at 1 rfl) ?_
  obtain ⟨u6, r6, hf⟩ := ob hf
  obtain ⟨v6, e6, hf⟩ := ob hf
  refine rw_callVi (As := [.int l1]) X dX2_tracedNode_6 clX2_67 pyX2_placeOf (mX2_placeOf l e6) (by decide) r6 rfl hP rfl (catL (c1c (cr _) c1n) (Nat.le_of_ble_eq_true rfl)) hl.1.1 (fun H locs hP => ?_)
  obtain ⟨v9, e9, hf⟩ := ob hf
  refine rw_iald X dX2_tracedNode_9 e9 hP ?_
  cases hf
  exact rw_iret X dX2_tracedNode_10 hP
theorem dX2_tracedResult_0 : decode cX2_tracedResult 0 = .ok (.aload_n 0, 1) := by decide +kernel
theorem dX2_tracedResult_1 : decode cX2_tracedResult 1 = .ok (.getfield 44, 3) := by decide +kernel
theorem dX2_tracedResult_4 : decode cX2_tracedResult 4 = .ok (.aload_n 0, 1) := by decide +kernel
theorem dX2_tracedResult_5 : decode cX2_tracedResult 5 = .ok (.iload_n 1, 1) := by decide +kernel
theorem dX2_tracedResult_6 : decode cX2_tracedResult 6 = .ok (.invokevirtual 67, 3) := by decide +kernel
theorem dX2_tracedResult_9 : decode cX2_tracedResult 9 = .ok (.iaload, 1) := by decide +kernel
theorem dX2_tracedResult_10 : decode cX2_tracedResult 10 = .ok (.ireturn, 1) := by decide +kernel
theorem pyX2_tracedResult : PY yX2_tracedResult 1 := ⟨by decide +kernel, by decide +kernel, by decide +kernel⟩
def fX2_tracedResult (Y : LY) (S : HS) (l0 : Option Nat) (l1 : Int32) : Option (Int32) :=
  (gR Y 2 210 l0 S).bind fun v1 =>
  (rcv Y 2 l0).bind fun _ =>
  (fX2_placeOf Y S l0 l1).bind fun v6 =>
  (gA Y 14 v1 v6 S).bind fun v9 =>
  some v9
set_option maxRecDepth 100000 in
set_option maxHeartbeats 4000000 in
theorem mX2_tracedResult (l : Launch) {G : GG} {Y : LY} {S : HS} {l0 : Option Nat} {l1 : Int32} {res : Int32} (hf : fX2_tracedResult Y S l0 l1 = some res) : MM l yX2_tracedResult cX2_tracedResult 2 (some .int) 2 43 G Y S [va_rf l0, .int l1] S (some (.int res)) := by
  refine mm_of2 (plainFor_of_name (by decide +kernel)) (Nat.le_of_ble_eq_true rfl) (c1c (cr _) (c1c (ci _) c1n)) ?_
  intro p e R s m args below meth c X H locs ls hP hl
  have X : Cx p R s m args meth c RX2 cX2_tracedResult 2 2 43 (fun q => q ∈ Y.1) G (some .int) := X
  have hx := X.1.1
  have hb := X.1.2.1
  have hl : LV ls 2 [(0, va_rf l0), (1, .int l1)] := hl
  unfold fX2_tracedResult at hf
  refine rw_aload_n X dX2_tracedResult_0 rfl (hl.at 0 rfl) ?_
  obtain ⟨v1, e1, hf⟩ := ob hf
  refine rw_getR X dX2_tracedResult_1 fl2_44 e1 rfl hP ?_
  refine rw_aload_n X dX2_tracedResult_4 rfl (hl.at 0 rfl) ?_
  refine lv_iload_n hx hb dX2_tracedResult_5 rfl (hl.at 1 rfl) ?_
  obtain ⟨u6, r6, hf⟩ := ob hf
  obtain ⟨v6, e6, hf⟩ := ob hf
  refine rw_callVi (As := [.int l1]) X dX2_tracedResult_6 clX2_67 pyX2_placeOf (mX2_placeOf l e6) (by decide) r6 rfl hP rfl (catL (c1c (cr _) c1n) (Nat.le_of_ble_eq_true rfl)) hl.1.1 (fun H locs hP => ?_)
  obtain ⟨v9, e9, hf⟩ := ob hf
  refine rw_iald X dX2_tracedResult_9 e9 hP ?_
  cases hf
  exact rw_iret X dX2_tracedResult_10 hP
theorem dX8_nodeAt_0 : decode cX8_nodeAt 0 = .ok (.iload_n 1, 1) := by decide +kernel
theorem dX8_nodeAt_1 : decode cX8_nodeAt 1 = .ok (.ifCond .lt 20, 3) := by decide +kernel
theorem dX8_nodeAt_4 : decode cX8_nodeAt 4 = .ok (.iload_n 1, 1) := by decide +kernel
theorem dX8_nodeAt_5 : decode cX8_nodeAt 5 = .ok (.aload_n 0, 1) := by decide +kernel
theorem dX8_nodeAt_6 : decode cX8_nodeAt 6 = .ok (.getfield 17, 3) := by decide +kernel
theorem dX8_nodeAt_9 : decode cX8_nodeAt 9 = .ok (.if_icmp .ge 12, 3) := by decide +kernel
theorem dX8_nodeAt_12 : decode cX8_nodeAt 12 = .ok (.iload_n 1, 1) := by decide +kernel
theorem dX8_nodeAt_13 : decode cX8_nodeAt 13 = .ok (.aload_n 0, 1) := by decide +kernel
theorem dX8_nodeAt_14 : decode cX8_nodeAt 14 = .ok (.getfield 11, 3) := by decide +kernel
theorem dX8_nodeAt_17 : decode cX8_nodeAt 17 = .ok (.arraylength, 1) := by decide +kernel
theorem dX8_nodeAt_18 : decode cX8_nodeAt 18 = .ok (.if_icmp .lt 7, 3) := by decide +kernel
theorem dX8_nodeAt_21 : decode cX8_nodeAt 21 = .ok (.aconst_null, 1) := by decide +kernel
theorem dX8_nodeAt_22 : decode cX8_nodeAt 22 = .ok (.goto 9, 3) := by decide +kernel
theorem dX8_nodeAt_25 : decode cX8_nodeAt 25 = .ok (.aload_n 0, 1) := by decide +kernel
theorem dX8_nodeAt_26 : decode cX8_nodeAt 26 = .ok (.getfield 11, 3) := by decide +kernel
theorem dX8_nodeAt_29 : decode cX8_nodeAt 29 = .ok (.iload_n 1, 1) := by decide +kernel
theorem dX8_nodeAt_30 : decode cX8_nodeAt 30 = .ok (.aaload, 1) := by decide +kernel
theorem dX8_nodeAt_31 : decode cX8_nodeAt 31 = .ok (.areturn, 1) := by decide +kernel
theorem pyX8_nodeAt : PY yX8_nodeAt 1 := ⟨by decide +kernel, by decide +kernel, by decide +kernel⟩
def fX8_nodeAt (Y : LY) (S : HS) (l0 : Option Nat) (l1 : Int32) : Option (Option Nat) :=
  if l1 < 0 then
    some none
  else
    (gI Y 8 801 l0 S).bind fun v6 =>
    if v6 ≤ l1 then
      some none
    else
      (gR Y 8 800 l0 S).bind fun v14 =>
      (aL Y 16 v14).bind fun v17 =>
      if l1 < v17 then
        (gR Y 8 800 l0 S).bind fun v26 =>
        (gQ Y 16 v26 l1 S).bind fun v30 =>
        some v30
      else
        some none
set_option maxRecDepth 100000 in
set_option maxHeartbeats 4000000 in
theorem mX8_nodeAt (l : Launch) {G : GG} {Y : LY} {S : HS} {l0 : Option Nat} {l1 : Int32} {res : Option Nat} (hf : fX8_nodeAt Y S l0 l1 = some res) : MM l yX8_nodeAt cX8_nodeAt 2 (some (.object "BehaviorRunner$Node")) 0 0 G Y S [va_rf l0, .int l1] S (some (va_rf res)) := by
  refine mm_of2 (plainFor_of_name (by decide +kernel)) (Nat.le_of_ble_eq_true rfl) (c1c (cr _) (c1c (ci _) c1n)) ?_
  intro p e R s m args below meth c X H locs ls hP hl
  have X : Cx p R s m args meth c RX8 cX8_nodeAt 2 0 0 (fun q => q ∈ Y.1) G (some (.object "BehaviorRunner$Node")) := X
  have hx := X.1.1
  have hb := X.1.2.1
  have hl : LV ls 2 [(0, va_rf l0), (1, .int l1)] := hl
  unfold fX8_nodeAt at hf
  refine lv_iload_n hx hb dX8_nodeAt_0 rfl (hl.at 1 rfl) ?_
  refine lv_if_lt hx hb (tgt := 21) dX8_nodeAt_1 (by decide) (fun c1 => ?_) (fun c1 => ?_)
  · have hf := ifp hf c1
    refine lv_null hx hb dX8_nodeAt_21 ?_
    refine W.eq (g2 := F0 m 22 ls (va_rf none :: [])) rfl ?_
    refine lv_goto (tgt := 31) hx hb dX8_nodeAt_22 (by decide) ?_
    cases hf
    exact rw_aret X dX8_nodeAt_31 hP
  · have hf := ifn hf c1
    refine lv_iload_n hx hb dX8_nodeAt_4 rfl (hl.at 1 rfl) ?_
    refine rw_aload_n X dX8_nodeAt_5 rfl (hl.at 0 rfl) ?_
    obtain ⟨v6, e6, hf⟩ := ob hf
    refine rw_getI X dX8_nodeAt_6 fl8_17 e6 rfl hP ?_
    refine lv_icmp_ge hx hb (tgt := 21) dX8_nodeAt_9 (by decide) (fun c9 => ?_) (fun c9 => ?_)
    · have hf := ifp hf c9
      refine lv_null hx hb dX8_nodeAt_21 ?_
      refine W.eq (g2 := F0 m 22 ls (va_rf none :: [])) rfl ?_
      refine lv_goto (tgt := 31) hx hb dX8_nodeAt_22 (by decide) ?_
      cases hf
      exact rw_aret X dX8_nodeAt_31 hP
    · have hf := ifn hf c9
      refine lv_iload_n hx hb dX8_nodeAt_12 rfl (hl.at 1 rfl) ?_
      refine rw_aload_n X dX8_nodeAt_13 rfl (hl.at 0 rfl) ?_
      obtain ⟨v14, e14, hf⟩ := ob hf
      refine rw_getR X dX8_nodeAt_14 fl8_11 e14 rfl hP ?_
      obtain ⟨v17, e17, hf⟩ := ob hf
      refine rw_alen X (by decide) dX8_nodeAt_17 e17 hP ?_
      refine lv_icmp_lt hx hb (tgt := 25) dX8_nodeAt_18 (by decide) (fun c18 => ?_) (fun c18 => ?_)
      · have hf := ifp hf c18
        refine rw_aload_n X dX8_nodeAt_25 rfl (hl.at 0 rfl) ?_
        obtain ⟨v26, e26, hf⟩ := ob hf
        refine rw_getR X dX8_nodeAt_26 fl8_11 e26 rfl hP ?_
        refine lv_iload_n hx hb dX8_nodeAt_29 rfl (hl.at 1 rfl) ?_
        obtain ⟨v30, e30, hf⟩ := ob hf
        refine rw_aald16 X dX8_nodeAt_30 e30 hP ?_
        cases hf
        exact rw_aret X dX8_nodeAt_31 hP
      · have hf := ifn hf c18
        refine lv_null hx hb dX8_nodeAt_21 ?_
        refine W.eq (g2 := F0 m 22 ls (va_rf none :: [])) rfl ?_
        refine lv_goto (tgt := 31) hx hb dX8_nodeAt_22 (by decide) ?_
        cases hf
        exact rw_aret X dX8_nodeAt_31 hP
theorem dX8_grow_0 : decode cX8_grow 0 = .ok (.aload_n 0, 1) := by decide +kernel
theorem dX8_grow_1 : decode cX8_grow 1 = .ok (.getfield 17, 3) := by decide +kernel
theorem dX8_grow_4 : decode cX8_grow 4 = .ok (.ifCond .lt 15, 3) := by decide +kernel
theorem dX8_grow_7 : decode cX8_grow 7 = .ok (.aload_n 0, 1) := by decide +kernel
theorem dX8_grow_8 : decode cX8_grow 8 = .ok (.getfield 17, 3) := by decide +kernel
theorem dX8_grow_11 : decode cX8_grow 11 = .ok (.aload_n 0, 1) := by decide +kernel
theorem dX8_grow_12 : decode cX8_grow 12 = .ok (.getfield 11, 3) := by decide +kernel
theorem dX8_grow_15 : decode cX8_grow 15 = .ok (.arraylength, 1) := by decide +kernel
theorem dX8_grow_16 : decode cX8_grow 16 = .ok (.if_icmp .lt 5, 3) := by decide +kernel
theorem dX8_grow_19 : decode cX8_grow 19 = .ok (.aconst_null, 1) := by decide +kernel
theorem dX8_grow_20 : decode cX8_grow 20 = .ok (.areturn, 1) := by decide +kernel
theorem dX8_grow_21 : decode cX8_grow 21 = .ok (.aload_n 0, 1) := by decide +kernel
theorem dX8_grow_22 : decode cX8_grow 22 = .ok (.getfield 11, 3) := by decide +kernel
theorem dX8_grow_25 : decode cX8_grow 25 = .ok (.aload_n 0, 1) := by decide +kernel
theorem dX8_grow_26 : decode cX8_grow 26 = .ok (.getfield 17, 3) := by decide +kernel
theorem dX8_grow_29 : decode cX8_grow 29 = .ok (.aaload, 1) := by decide +kernel
theorem dX8_grow_30 : decode cX8_grow 30 = .ok (.astore_n 3, 1) := by decide +kernel
theorem dX8_grow_31 : decode cX8_grow 31 = .ok (.aload_n 3, 1) := by decide +kernel
theorem dX8_grow_32 : decode cX8_grow 32 = .ok (.iload_n 1, 1) := by decide +kernel
theorem dX8_grow_33 : decode cX8_grow 33 = .ok (.aload_n 2, 1) := by decide +kernel
theorem dX8_grow_34 : decode cX8_grow 34 = .ok (.aload_n 0, 1) := by decide +kernel
theorem dX8_grow_35 : decode cX8_grow 35 = .ok (.aload_n 0, 1) := by decide +kernel
theorem dX8_grow_36 : decode cX8_grow 36 = .ok (.getfield 17, 3) := by decide +kernel
theorem dX8_grow_39 : decode cX8_grow 39 = .ok (.iconst 1, 1) := by decide +kernel
theorem dX8_grow_40 : decode cX8_grow 40 = .ok (.isub, 1) := by decide +kernel
theorem dX8_grow_41 : decode cX8_grow 41 = .ok (.invokevirtual 24, 3) := by decide +kernel
theorem dX8_grow_44 : decode cX8_grow 44 = .ok (.invokevirtual 28, 3) := by decide +kernel
theorem dX8_grow_47 : decode cX8_grow 47 = .ok (.aload_n 0, 1) := by decide +kernel
theorem dX8_grow_48 : decode cX8_grow 48 = .ok (.dup, 1) := by decide +kernel
theorem dX8_grow_49 : decode cX8_grow 49 = .ok (.getfield 17, 3) := by decide +kernel
theorem dX8_grow_52 : decode cX8_grow 52 = .ok (.iconst 1, 1) := by decide +kernel
theorem dX8_grow_53 : decode cX8_grow 53 = .ok (.iadd, 1) := by decide +kernel
theorem dX8_grow_54 : decode cX8_grow 54 = .ok (.putfield 17, 3) := by decide +kernel
theorem dX8_grow_57 : decode cX8_grow 57 = .ok (.aload_n 2, 1) := by decide +kernel
theorem dX8_grow_58 : decode cX8_grow 58 = .ok (.ifnull 8, 3) := by decide +kernel
theorem dX8_grow_61 : decode cX8_grow 61 = .ok (.aload_n 2, 1) := by decide +kernel
theorem dX8_grow_62 : decode cX8_grow 62 = .ok (.aload_n 3, 1) := by decide +kernel
theorem dX8_grow_63 : decode cX8_grow 63 = .ok (.invokevirtual 32, 3) := by decide +kernel
theorem dX8_grow_66 : decode cX8_grow 66 = .ok (.aload_n 3, 1) := by decide +kernel
theorem dX8_grow_67 : decode cX8_grow 67 = .ok (.areturn, 1) := by decide +kernel
theorem pyX8_grow : PY yX8_grow 2 := ⟨by decide +kernel, by decide +kernel, by decide +kernel⟩
def fX8_grow (Y : LY) (S : HS) (l0 : Option Nat) (l1 : Int32) (l2 : Option Nat) : Option (HS × Option Nat) :=
  (gI Y 8 801 l0 S).bind fun v1 =>
  if v1 < 0 then
    some (S, none)
  else
    (gI Y 8 801 l0 S).bind fun v8 =>
    (gR Y 8 800 l0 S).bind fun v12 =>
    (aL Y 16 v12).bind fun v15 =>
    if v8 < v15 then
      (gR Y 8 800 l0 S).bind fun v22 =>
      (gI Y 8 801 l0 S).bind fun v26 =>
      (gQ Y 16 v22 v26 S).bind fun v29 =>
      (gI Y 8 801 l0 S).bind fun v36 =>
      (rcv Y 8 l0).bind fun _ =>
      (fX8_nodeAt Y S l0 (v36 - 1)).bind fun v41 =>
      (rcv Y 4 v29).bind fun _ =>
      (fX4_reset Y S v29 l1 l2 v41).bind fun S44 =>
      (gI Y 8 801 l0 S44).bind fun v49 =>
      (pI Y 8 801 l0 (v49 + 1) S44).bind fun S54 =>
      if l2 = none then
        some (S54, v29)
      else
        (rcv Y 4 l2).bind fun _ =>
        (fX4_adopt Y S54 l2 v29).bind fun S63 =>
        some (S63, v29)
    else
      some (S, none)
set_option maxRecDepth 100000 in
set_option maxHeartbeats 4000000 in
theorem mX8_grow (l : Launch) {G : GG} {Y : LY} {S : HS} {l0 : Option Nat} {l1 : Int32} {l2 : Option Nat} {res : HS × Option Nat} (hf : fX8_grow Y S l0 l1 l2 = some res) : MM l yX8_grow cX8_grow 4 (some (.object "BehaviorRunner$Node")) 2 43 G Y S [va_rf l0, .int l1, va_rf l2] res.1 (some (va_rf res.2)) := by
  refine mm_of2 (plainFor_of_name (by decide +kernel)) (Nat.le_of_ble_eq_true rfl) (c1c (cr _) (c1c (ci _) (c1c (cr _) c1n))) ?_
  intro p e R s m args below meth c X H locs ls hP hl
  have X : Cx p R s m args meth c RX8 cX8_grow 4 2 43 (fun q => q ∈ Y.1) G (some (.object "BehaviorRunner$Node")) := X
  have hx := X.1.1
  have hb := X.1.2.1
  have hl : LV ls 4 [(0, va_rf l0), (1, .int l1), (2, va_rf l2)] := hl
  unfold fX8_grow at hf
  refine rw_aload_n X dX8_grow_0 rfl (hl.at 0 rfl) ?_
  obtain ⟨v1, e1, hf⟩ := ob hf
  refine rw_getI X dX8_grow_1 fl8_17 e1 rfl hP ?_
  refine lv_if_lt hx hb (tgt := 19) dX8_grow_4 (by decide) (fun c4 => ?_) (fun c4 => ?_)
  · have hf := ifp hf c4
    refine lv_null hx hb dX8_grow_19 ?_
    refine W.eq (g2 := F0 m 20 ls (va_rf none :: [])) rfl ?_
    cases hf
    exact rw_aret X dX8_grow_20 hP
  · have hf := ifn hf c4
    refine rw_aload_n X dX8_grow_7 rfl (hl.at 0 rfl) ?_
    obtain ⟨v8, e8, hf⟩ := ob hf
    refine rw_getI X dX8_grow_8 fl8_17 e8 rfl hP ?_
    refine rw_aload_n X dX8_grow_11 rfl (hl.at 0 rfl) ?_
    obtain ⟨v12, e12, hf⟩ := ob hf
    refine rw_getR X dX8_grow_12 fl8_11 e12 rfl hP ?_
    obtain ⟨v15, e15, hf⟩ := ob hf
    refine rw_alen X (by decide) dX8_grow_15 e15 hP ?_
    refine lv_icmp_lt hx hb (tgt := 21) dX8_grow_16 (by decide) (fun c16 => ?_) (fun c16 => ?_)
    · have hf := ifp hf c16
      refine rw_aload_n X dX8_grow_21 rfl (hl.at 0 rfl) ?_
      obtain ⟨v22, e22, hf⟩ := ob hf
      refine rw_getR X dX8_grow_22 fl8_11 e22 rfl hP ?_
      refine rw_aload_n X dX8_grow_25 rfl (hl.at 0 rfl) ?_
      obtain ⟨v26, e26, hf⟩ := ob hf
      refine rw_getI X dX8_grow_26 fl8_17 e26 rfl hP ?_
      obtain ⟨v29, e29, hf⟩ := ob hf
      refine rw_aald16 X dX8_grow_29 e29 hP ?_
      refine rv_astore_n X dX8_grow_30 rfl hl (by decide) rfl (fun ls hl => ?_)
      have hl : LV ls 4 [(3, va_rf v29), (0, va_rf l0), (1, .int l1), (2, va_rf l2)] := hl
      refine rw_aload_n X dX8_grow_31 rfl (hl.at 0 rfl) ?_
      refine lv_iload_n hx hb dX8_grow_32 rfl (hl.at 2 rfl) ?_
      refine rw_aload_n X dX8_grow_33 rfl (hl.at 3 rfl) ?_
      refine rw_aload_n X dX8_grow_34 rfl (hl.at 1 rfl) ?_
      refine rw_aload_n X dX8_grow_35 rfl (hl.at 1 rfl) ?_
      obtain ⟨v36, e36, hf⟩ := ob hf
      refine rw_getI X dX8_grow_36 fl8_17 e36 rfl hP ?_
      refine lv_iconst (v := 1) hx hb dX8_grow_39 (by decide) ?_
      refine lv_isub hx hb dX8_grow_40 ?_
      obtain ⟨u41, r41, hf⟩ := ob hf
      obtain ⟨v41, e41, hf⟩ := ob hf
      refine rw_callVr (As := [.int (v36 - 1)]) X dX8_grow_41 clX8_24 pyX8_nodeAt (mX8_nodeAt l e41) (by decide) r41 rfl hP rfl (catL (c1c (cr _) (c1c (ci _) (c1c (cr _) c1n))) (Nat.le_of_ble_eq_true rfl)) hl.1.1 (fun H locs hP => ?_)
      obtain ⟨u44, r44, hf⟩ := ob hf
      obtain ⟨S44, e44, hf⟩ := ob hf
      refine rw_callVv (As := [.int l1, va_rf l2, va_rf v41]) X dX8_grow_44 clX8_28 pyX4_reset (mX4_reset l e44) (by decide) r44 rfl hP rfl (catL c1n (Nat.le_of_ble_eq_true rfl)) hl.1.1 (fun H locs hP => ?_)
      refine rw_aload_n X dX8_grow_47 rfl (hl.at 1 rfl) ?_
      refine lv_dup hx hb dX8_grow_48 (cr _) ?_
      obtain ⟨v49, e49, hf⟩ := ob hf
      refine rw_getI X dX8_grow_49 fl8_17 e49 rfl hP ?_
      refine lv_iconst (v := 1) hx hb dX8_grow_52 (by decide) ?_
      refine lv_iadd hx hb dX8_grow_53 ?_
      obtain ⟨S54, e54, hf⟩ := ob hf
      refine rw_putI X dX8_grow_54 fl8_17 fw8_1 e54 rfl hP (fun H locs hP => ?_)
      refine rw_aload_n X dX8_grow_57 rfl (hl.at 3 rfl) ?_
      refine rw_ifnull X (tgt := 66) dX8_grow_58 (by decide) (fun c58 => ?_) (fun c58 => ?_)
      · have hf := ifp hf c58
        refine rw_aload_n X dX8_grow_66 rfl (hl.at 0 rfl) ?_
        cases hf
        exact rw_aret X dX8_grow_67 hP
      · have hf := ifn hf c58
        refine rw_aload_n X dX8_grow_61 rfl (hl.at 3 rfl) ?_
        refine rw_aload_n X dX8_grow_62 rfl (hl.at 0 rfl) ?_
        obtain ⟨u63, r63, hf⟩ := ob hf
        obtain ⟨S63, e63, hf⟩ := ob hf
        refine rw_callVv (As := [va_rf v29]) X dX8_grow_63 clX8_32 pyX4_adopt (mX4_adopt l e63) (by decide) r63 rfl hP rfl (catL c1n (Nat.le_of_ble_eq_true rfl)) hl.1.1 (fun H locs hP => ?_)
        refine rw_aload_n X dX8_grow_66 rfl (hl.at 0 rfl) ?_
        cases hf
        exact rw_aret X dX8_grow_67 hP
    · have hf := ifn hf c16
      refine lv_null hx hb dX8_grow_19 ?_
      refine W.eq (g2 := F0 m 20 ls (va_rf none :: [])) rfl ?_
      cases hf
      exact rw_aret X dX8_grow_20 hP
theorem dX8_runningNodes_0 : decode cX8_runningNodes 0 = .ok (.iconst 0, 1) := by decide +kernel
theorem dX8_runningNodes_1 : decode cX8_runningNodes 1 = .ok (.istore_n 1, 1) := by decide +kernel
theorem dX8_runningNodes_2 : decode cX8_runningNodes 2 = .ok (.iconst 0, 1) := by decide +kernel
theorem dX8_runningNodes_3 : decode cX8_runningNodes 3 = .ok (.istore_n 2, 1) := by decide +kernel
theorem dX8_runningNodes_4 : decode cX8_runningNodes 4 = .ok (.iload_n 2, 1) := by decide +kernel
theorem dX8_runningNodes_5 : decode cX8_runningNodes 5 = .ok (.aload_n 0, 1) := by decide +kernel
theorem dX8_runningNodes_6 : decode cX8_runningNodes 6 = .ok (.getfield 17, 3) := by decide +kernel
theorem dX8_runningNodes_9 : decode cX8_runningNodes 9 = .ok (.if_icmp .ge 41, 3) := by decide +kernel
theorem dX8_runningNodes_12 : decode cX8_runningNodes 12 = .ok (.iload_n 2, 1) := by decide +kernel
theorem dX8_runningNodes_13 : decode cX8_runningNodes 13 = .ok (.aload_n 0, 1) := by decide +kernel
theorem dX8_runningNodes_14 : decode cX8_runningNodes 14 = .ok (.getfield 11, 3) := by decide +kernel
theorem dX8_runningNodes_17 : decode cX8_runningNodes 17 = .ok (.arraylength, 1) := by decide +kernel
theorem dX8_runningNodes_18 : decode cX8_runningNodes 18 = .ok (.if_icmp .ge 32, 3) := by decide +kernel
theorem dX8_runningNodes_21 : decode cX8_runningNodes 21 = .ok (.iload_n 1, 1) := by decide +kernel
theorem dX8_runningNodes_22 : decode cX8_runningNodes 22 = .ok (.aload_n 0, 1) := by decide +kernel
theorem dX8_runningNodes_23 : decode cX8_runningNodes 23 = .ok (.getfield 11, 3) := by decide +kernel
theorem dX8_runningNodes_26 : decode cX8_runningNodes 26 = .ok (.iload_n 2, 1) := by decide +kernel
theorem dX8_runningNodes_27 : decode cX8_runningNodes 27 = .ok (.aaload, 1) := by decide +kernel
theorem dX8_runningNodes_28 : decode cX8_runningNodes 28 = .ok (.getfield 36, 3) := by decide +kernel
theorem dX8_runningNodes_31 : decode cX8_runningNodes 31 = .ok (.getfield 40, 3) := by decide +kernel
theorem dX8_runningNodes_34 : decode cX8_runningNodes 34 = .ok (.ifCond .eq 7, 3) := by decide +kernel
theorem dX8_runningNodes_37 : decode cX8_runningNodes 37 = .ok (.iconst 1, 1) := by decide +kernel
theorem dX8_runningNodes_38 : decode cX8_runningNodes 38 = .ok (.goto 4, 3) := by decide +kernel
theorem dX8_runningNodes_41 : decode cX8_runningNodes 41 = .ok (.iconst 0, 1) := by decide +kernel
theorem dX8_runningNodes_42 : decode cX8_runningNodes 42 = .ok (.iadd, 1) := by decide +kernel
theorem dX8_runningNodes_43 : decode cX8_runningNodes 43 = .ok (.istore_n 1, 1) := by decide +kernel
theorem dX8_runningNodes_44 : decode cX8_runningNodes 44 = .ok (.iinc 2 1, 3) := by decide +kernel
theorem dX8_runningNodes_47 : decode cX8_runningNodes 47 = .ok (.goto (-43), 3) := by decide +kernel
theorem dX8_runningNodes_50 : decode cX8_runningNodes 50 = .ok (.iload_n 1, 1) := by decide +kernel
theorem dX8_runningNodes_51 : decode cX8_runningNodes 51 = .ok (.ireturn, 1) := by decide +kernel
theorem pyX8_runningNodes : PY yX8_runningNodes 0 := ⟨by decide +kernel, by decide +kernel, by decide +kernel⟩
def fX8_runningNodes_4 (Y : LY) (S : HS) : Nat → Option Nat → Int32 → Int32 → Option (Int32)
  | 0, _, _, _ => none
  | n + 1, l0, l1, l2 =>
    (gI Y 8 801 l0 S).bind fun v6 =>
    if v6 ≤ l2 then
      some l1
    else
      (gR Y 8 800 l0 S).bind fun v14 =>
      (aL Y 16 v14).bind fun v17 =>
      if v17 ≤ l2 then
        some l1
      else
        (gR Y 8 800 l0 S).bind fun v23 =>
        (gQ Y 16 v23 l2 S).bind fun v27 =>
        (gR Y 4 403 v27 S).bind fun v28 =>
        (gI Y 3 300 v28 S).bind fun v31 =>
        if v31 = 0 then
          fX8_runningNodes_4 Y S n l0 (l1 + 0) (l2 + 1)
        else
          fX8_runningNodes_4 Y S n l0 (l1 + 1) (l2 + 1)
set_option maxRecDepth 100000 in
set_option maxHeartbeats 4000000 in
theorem wX8_runningNodes_4 {p : Program} {l : Launch} {e : Env} {R : Room} {s : State} {m : MethodId} {args : Array Value} {below : List Frame} {meth : Method} {c : Code} {G : GG} {Y : LY} {S : HS} {res : Int32} (X : Cx p R s m args meth c RX8 cX8_runningNodes 3 0 0 (fun q => q ∈ Y.1) G (some .int)) : ∀ (n : Nat) (l0 : Option Nat) (l1 : Int32) (l2 : Int32), fX8_runningNodes_4 Y S n l0 l1 l2 = some res → ∀ (H : Heap) (locs : List Loc) (ls : Array Slot), HP (fun q => q ∈ Y.1) G Y s S H locs → LV ls 3 [(0, va_rf l0), (1, .int l1), (2, .int l2)] → W p l e R s m args below meth c H locs 0 0 (MQ below (QI G Y S (some (.int res))) args s 0 0 (fun q => q ∈ Y.1)) (F0 m 4 ls []) := by
  have hx := X.1.1
  have hb := X.1.2.1
  intro n
  induction n with
  | zero =>
    intro l0 l1 l2 hf
    cases hf
  | succ n ih =>
    intro l0 l1 l2 hf H locs ls hP hl
    rw [fX8_runningNodes_4] at hf
    refine lv_iload_n hx hb dX8_runningNodes_4 rfl (hl.at 2 rfl) ?_
    refine rw_aload_n X dX8_runningNodes_5 rfl (hl.at 0 rfl) ?_
    obtain ⟨v6, e6, hf⟩ := ob hf
    refine rw_getI X dX8_runningNodes_6 fl8_17 e6 rfl hP ?_
    refine lv_icmp_ge hx hb (tgt := 50) dX8_runningNodes_9 (by decide) (fun c9 => ?_) (fun c9 => ?_)
    · have hf := ifp hf c9
      refine lv_iload_n hx hb dX8_runningNodes_50 rfl (hl.at 1 rfl) ?_
      cases hf
      exact rw_iret X dX8_runningNodes_51 hP
    · have hf := ifn hf c9
      refine lv_iload_n hx hb dX8_runningNodes_12 rfl (hl.at 2 rfl) ?_
      refine rw_aload_n X dX8_runningNodes_13 rfl (hl.at 0 rfl) ?_
      obtain ⟨v14, e14, hf⟩ := ob hf
      refine rw_getR X dX8_runningNodes_14 fl8_11 e14 rfl hP ?_
      obtain ⟨v17, e17, hf⟩ := ob hf
      refine rw_alen X (by decide) dX8_runningNodes_17 e17 hP ?_
      refine lv_icmp_ge hx hb (tgt := 50) dX8_runningNodes_18 (by decide) (fun c18 => ?_) (fun c18 => ?_)
      · have hf := ifp hf c18
        refine lv_iload_n hx hb dX8_runningNodes_50 rfl (hl.at 1 rfl) ?_
        cases hf
        exact rw_iret X dX8_runningNodes_51 hP
      · have hf := ifn hf c18
        refine lv_iload_n hx hb dX8_runningNodes_21 rfl (hl.at 1 rfl) ?_
        refine rw_aload_n X dX8_runningNodes_22 rfl (hl.at 0 rfl) ?_
        obtain ⟨v23, e23, hf⟩ := ob hf
        refine rw_getR X dX8_runningNodes_23 fl8_11 e23 rfl hP ?_
        refine lv_iload_n hx hb dX8_runningNodes_26 rfl (hl.at 2 rfl) ?_
        obtain ⟨v27, e27, hf⟩ := ob hf
        refine rw_aald16 X dX8_runningNodes_27 e27 hP ?_
        obtain ⟨v28, e28, hf⟩ := ob hf
        refine rw_getR X dX8_runningNodes_28 fl8_36 e28 rfl hP ?_
        obtain ⟨v31, e31, hf⟩ := ob hf
        refine rw_getI X dX8_runningNodes_31 fl8_40 e31 rfl hP ?_
        refine lv_if_eq hx hb (tgt := 41) dX8_runningNodes_34 (by decide) (fun c34 => ?_) (fun c34 => ?_)
        · have hf := ifp hf c34
          refine lv_iconst (v := 0) hx hb dX8_runningNodes_41 (by decide) ?_
          refine lv_iadd hx hb dX8_runningNodes_42 ?_
          refine rv_istore_n X dX8_runningNodes_43 rfl hl (by decide) rfl (fun ls hl => ?_)
          have hl : LV ls 3 [(1, .int (l1 + 0)), (0, va_rf l0), (2, .int l2)] := hl
          refine rv_iinc (k := 2) (d := 1) X dX8_runningNodes_44 hl rfl (by decide) (by decide) rfl (fun ls hl => ?_)
          have hl : LV ls 3 [(2, .int (l2 + 1)), (1, .int (l1 + 0)), (0, va_rf l0)] := hl
          refine lv_goto (tgt := 4) hx hb dX8_runningNodes_47 (by decide) ?_
          exact ih l0 (l1 + 0) (l2 + 1) hf _ _ _ hP (hl.sub [2, 1, 0] rfl)
        · have hf := ifn hf c34
          refine lv_iconst (v := 1) hx hb dX8_runningNodes_37 (by decide) ?_
          refine lv_goto (tgt := 42) hx hb dX8_runningNodes_38 (by decide) ?_
          refine lv_iadd hx hb dX8_runningNodes_42 ?_
          refine rv_istore_n X dX8_runningNodes_43 rfl hl (by decide) rfl (fun ls hl => ?_)
          have hl : LV ls 3 [(1, .int (l1 + 1)), (0, va_rf l0), (2, .int l2)] := hl
          refine rv_iinc (k := 2) (d := 1) X dX8_runningNodes_44 hl rfl (by decide) (by decide) rfl (fun ls hl => ?_)
          have hl : LV ls 3 [(2, .int (l2 + 1)), (1, .int (l1 + 1)), (0, va_rf l0)] := hl
          refine lv_goto (tgt := 4) hx hb dX8_runningNodes_47 (by decide) ?_
          exact ih l0 (l1 + 1) (l2 + 1) hf _ _ _ hP (hl.sub [2, 1, 0] rfl)
def fX8_runningNodes (Y : LY) (S : HS) (l0 : Option Nat) : Option (Int32) :=
  fX8_runningNodes_4 Y S FU l0 0 0
set_option maxRecDepth 100000 in
set_option maxHeartbeats 4000000 in
theorem mX8_runningNodes (l : Launch) {G : GG} {Y : LY} {S : HS} {l0 : Option Nat} {res : Int32} (hf : fX8_runningNodes Y S l0 = some res) : MM l yX8_runningNodes cX8_runningNodes 3 (some .int) 0 0 G Y S [va_rf l0] S (some (.int res)) := by
  refine mm_of2 (plainFor_of_name (by decide +kernel)) (Nat.le_of_ble_eq_true rfl) (c1c (cr _) c1n) ?_
  intro p e R s m args below meth c X H locs ls hP hl
  have X : Cx p R s m args meth c RX8 cX8_runningNodes 3 0 0 (fun q => q ∈ Y.1) G (some .int) := X
  have hx := X.1.1
  have hb := X.1.2.1
  have hl : LV ls 3 [(0, va_rf l0)] := hl
  unfold fX8_runningNodes at hf
  refine lv_iconst (v := 0) hx hb dX8_runningNodes_0 (by decide) ?_
  refine rv_istore_n X dX8_runningNodes_1 rfl hl (by decide) rfl (fun ls hl => ?_)
  have hl : LV ls 3 [(1, .int 0), (0, va_rf l0)] := hl
  refine lv_iconst (v := 0) hx hb dX8_runningNodes_2 (by decide) ?_
  refine rv_istore_n X dX8_runningNodes_3 rfl hl (by decide) rfl (fun ls hl => ?_)
  have hl : LV ls 3 [(2, .int 0), (1, .int 0), (0, va_rf l0)] := hl
  exact wX8_runningNodes_4 X FU l0 0 0 hf _ _ _ hP (hl.sub [2, 1, 0] rfl)
end
section
/-! printed by wip/whole/gen/gen_parts.py: 13.walker -/
theorem dX9_beginRun_0 : decode cX9_beginRun 0 = .ok (.aload_n 1, 1) := by decide +kernel
theorem dX9_beginRun_1 : decode cX9_beginRun 1 = .ok (.getfield 60, 3) := by decide +kernel
theorem dX9_beginRun_4 : decode cX9_beginRun 4 = .ok (.astore_n 2, 1) := by decide +kernel
theorem dX9_beginRun_5 : decode cX9_beginRun 5 = .ok (.aload_n 2, 1) := by decide +kernel
theorem dX9_beginRun_6 : decode cX9_beginRun 6 = .ok (.iconst 1, 1) := by decide +kernel
theorem dX9_beginRun_7 : decode cX9_beginRun 7 = .ok (.putfield 64, 3) := by decide +kernel
theorem dX9_beginRun_10 : decode cX9_beginRun 10 = .ok (.aload_n 2, 1) := by decide +kernel
theorem dX9_beginRun_11 : decode cX9_beginRun 11 = .ok (.dup, 1) := by decide +kernel
theorem dX9_beginRun_12 : decode cX9_beginRun 12 = .ok (.getfield 150, 3) := by decide +kernel
theorem dX9_beginRun_15 : decode cX9_beginRun 15 = .ok (.iconst 1, 1) := by decide +kernel
theorem dX9_beginRun_16 : decode cX9_beginRun 16 = .ok (.iadd, 1) := by decide +kernel
theorem dX9_beginRun_17 : decode cX9_beginRun 17 = .ok (.putfield 150, 3) := by decide +kernel
theorem dX9_beginRun_20 : decode cX9_beginRun 20 = .ok (.aload_n 2, 1) := by decide +kernel
theorem dX9_beginRun_21 : decode cX9_beginRun 21 = .ok (.iconst 0, 1) := by decide +kernel
theorem dX9_beginRun_22 : decode cX9_beginRun 22 = .ok (.putfield 144, 3) := by decide +kernel
theorem dX9_beginRun_25 : decode cX9_beginRun 25 = .ok (.aload_n 2, 1) := by decide +kernel
theorem dX9_beginRun_26 : decode cX9_beginRun 26 = .ok (.aload_n 1, 1) := by decide +kernel
theorem dX9_beginRun_27 : decode cX9_beginRun 27 = .ok (.getfield 133, 3) := by decide +kernel
theorem dX9_beginRun_30 : decode cX9_beginRun 30 = .ok (.putfield 127, 3) := by decide +kernel
theorem dX9_beginRun_33 : decode cX9_beginRun 33 = .ok (.aload_n 2, 1) := by decide +kernel
theorem dX9_beginRun_34 : decode cX9_beginRun 34 = .ok (.iconst 0, 1) := by decide +kernel
theorem dX9_beginRun_35 : decode cX9_beginRun 35 = .ok (.putfield 153, 3) := by decide +kernel
theorem dX9_beginRun_38 : decode cX9_beginRun 38 = .ok (.aload_n 1, 1) := by decide +kernel
theorem dX9_beginRun_39 : decode cX9_beginRun 39 = .ok (.getfield 133, 3) := by decide +kernel
theorem dX9_beginRun_42 : decode cX9_beginRun 42 = .ok (.astore_n 3, 1) := by decide +kernel
theorem dX9_beginRun_43 : decode cX9_beginRun 43 = .ok (.aload_n 3, 1) := by decide +kernel
theorem dX9_beginRun_44 : decode cX9_beginRun 44 = .ok (.ifnull 19, 3) := by decide +kernel
theorem dX9_beginRun_47 : decode cX9_beginRun 47 = .ok (.aload_n 3, 1) := by decide +kernel
theorem dX9_beginRun_48 : decode cX9_beginRun 48 = .ok (.getfield 60, 3) := by decide +kernel
theorem dX9_beginRun_51 : decode cX9_beginRun 51 = .ok (.iconst 0, 1) := by decide +kernel
theorem dX9_beginRun_52 : decode cX9_beginRun 52 = .ok (.putfield 156, 3) := by decide +kernel
theorem dX9_beginRun_55 : decode cX9_beginRun 55 = .ok (.aload_n 3, 1) := by decide +kernel
theorem dX9_beginRun_56 : decode cX9_beginRun 56 = .ok (.getfield 159, 3) := by decide +kernel
theorem dX9_beginRun_59 : decode cX9_beginRun 59 = .ok (.astore_n 3, 1) := by decide +kernel
theorem dX9_beginRun_60 : decode cX9_beginRun 60 = .ok (.goto (-17), 3) := by decide +kernel
theorem dX9_beginRun_63 : decode cX9_beginRun 63 = .ok (.return_, 1) := by decide +kernel
theorem pyX9_beginRun : PY yX9_beginRun 1 := ⟨by decide +kernel, by decide +kernel, by decide +kernel⟩
def fX9_beginRun_43 (Y : LY) : Nat → HS → Option Nat → Option (HS)
  | 0, _, _ => none
  | n + 1, S, l3 =>
    if l3 = none then
      some S
    else
      (gR Y 4 403 l3 S).bind fun v48 =>
      (pI Y 3 303 v48 0 S).bind fun S52 =>
      (gR Y 4 412 l3 S52).bind fun v56 =>
      fX9_beginRun_43 Y n S52 v56
set_option maxRecDepth 100000 in
set_option maxHeartbeats 4000000 in
theorem wX9_beginRun_43 {p : Program} {l : Launch} {e : Env} {R : Room} {s : State} {m : MethodId} {args : Array Value} {below : List Frame} {meth : Method} {c : Code} {G : GG} {Y : LY} {res : HS} (X : Cx p R s m args meth c RX9 cX9_beginRun 4 0 0 (fun q => q ∈ Y.1) G none) : ∀ (n : Nat) (S : HS) (l3 : Option Nat), fX9_beginRun_43 Y n S l3 = some res → ∀ (H : Heap) (locs : List Loc) (ls : Array Slot), HP (fun q => q ∈ Y.1) G Y s S H locs → LV ls 4 [(3, va_rf l3)] → W p l e R s m args below meth c H locs 0 0 (MQ below (QI G Y res none) args s 0 0 (fun q => q ∈ Y.1)) (F0 m 43 ls []) := by
  have hx := X.1.1
  have hb := X.1.2.1
  intro n
  induction n with
  | zero =>
    intro S l3 hf
    cases hf
  | succ n ih =>
    intro S l3 hf H locs ls hP hl
    rw [fX9_beginRun_43] at hf
    refine rw_aload_n X dX9_beginRun_43 rfl (hl.at 0 rfl) ?_
    refine rw_ifnull X (tgt := 63) dX9_beginRun_44 (by decide) (fun c44 => ?_) (fun c44 => ?_)
    · have hf := ifp hf c44
      cases hf
      exact rw_vret X dX9_beginRun_63 hP
    · have hf := ifn hf c44
      refine rw_aload_n X dX9_beginRun_47 rfl (hl.at 0 rfl) ?_
      obtain ⟨v48, e48, hf⟩ := ob hf
      refine rw_getR X dX9_beginRun_48 fl9_60 e48 rfl hP ?_
      refine lv_iconst (v := 0) hx hb dX9_beginRun_51 (by decide) ?_
      obtain ⟨S52, e52, hf⟩ := ob hf
      refine rw_putI X dX9_beginRun_52 fl9_156 fw3_3 e52 rfl hP (fun H locs hP => ?_)
      refine rw_aload_n X dX9_beginRun_55 rfl (hl.at 0 rfl) ?_
      obtain ⟨v56, e56, hf⟩ := ob hf
      refine rw_getR X dX9_beginRun_56 fl9_159 e56 rfl hP ?_
      refine rv_astore_n X dX9_beginRun_59 rfl hl (by decide) rfl (fun ls hl => ?_)
      have hl : LV ls 4 [(3, va_rf v56)] := hl
      refine lv_goto (tgt := 43) hx hb dX9_beginRun_60 (by decide) ?_
      exact ih S52 v56 hf _ _ _ hP (hl.sub [0] rfl)
def fX9_beginRun (Y : LY) (S : HS) (l0 : Option Nat) (l1 : Option Nat) : Option (HS) :=
  (gR Y 4 403 l1 S).bind fun v1 =>
  (pZ Y 3 300 v1 1 S).bind fun S7 =>
  (gI Y 3 305 v1 S7).bind fun v12 =>
  (pI Y 3 305 v1 (v12 + 1) S7).bind fun S17 =>
  (pI Y 3 301 v1 0 S17).bind fun S22 =>
  (gR Y 4 410 l1 S22).bind fun v27 =>
  (pR Y 3 302 v1 v27 S22).bind fun S30 =>
  (pI Y 3 304 v1 0 S30).bind fun S35 =>
  (gR Y 4 410 l1 S35).bind fun v39 =>
  fX9_beginRun_43 Y FU S35 v39
set_option maxRecDepth 100000 in
set_option maxHeartbeats 4000000 in
theorem mX9_beginRun (l : Launch) {G : GG} {Y : LY} {S : HS} {l0 : Option Nat} {l1 : Option Nat} {res : HS} (hf : fX9_beginRun Y S l0 l1 = some res) : MM l yX9_beginRun cX9_beginRun 4 none 0 0 G Y S [va_rf l0, va_rf l1] res none := by
  refine mm_of2 (plainFor_of_name (by decide +kernel)) (Nat.le_of_ble_eq_true rfl) (c1c (cr _) (c1c (cr _) c1n)) ?_
  intro p e R s m args below meth c X H locs ls hP hl
  have X : Cx p R s m args meth c RX9 cX9_beginRun 4 0 0 (fun q => q ∈ Y.1) G none := X
  have hx := X.1.1
  have hb := X.1.2.1
  have hl : LV ls 4 [(0, va_rf l0), (1, va_rf l1)] := hl
  unfold fX9_beginRun at hf
  refine rw_aload_n X dX9_beginRun_0 rfl (hl.at 1 rfl) ?_
  obtain ⟨v1, e1, hf⟩ := ob hf
  refine rw_getR X dX9_beginRun_1 fl9_60 e1 rfl hP ?_
  refine rv_astore_n X dX9_beginRun_4 rfl hl (by decide) rfl (fun ls hl => ?_)
  have hl : LV ls 4 [(2, va_rf v1), (0, va_rf l0), (1, va_rf l1)] := hl
  refine rw_aload_n X dX9_beginRun_5 rfl (hl.at 0 rfl) ?_
  refine lv_iconst (v := 1) hx hb dX9_beginRun_6 (by decide) ?_
  obtain ⟨S7, e7, hf⟩ := ob hf
  refine rw_putZ X dX9_beginRun_7 fl9_64 fw3_0 e7 rfl hP (fun H locs hP => ?_)
  refine rw_aload_n X dX9_beginRun_10 rfl (hl.at 0 rfl) ?_
  refine lv_dup hx hb dX9_beginRun_11 (cr _) ?_
  obtain ⟨v12, e12, hf⟩ := ob hf
  refine rw_getI X dX9_beginRun_12 fl9_150 e12 rfl hP ?_
  refine lv_iconst (v := 1) hx hb dX9_beginRun_15 (by decide) ?_
  refine lv_iadd hx hb dX9_beginRun_16 ?_
  obtain ⟨S17, e17, hf⟩ := ob hf
  refine rw_putI X dX9_beginRun_17 fl9_150 fw3_5 e17 rfl hP (fun H locs hP => ?_)
  refine rw_aload_n X dX9_beginRun_20 rfl (hl.at 0 rfl) ?_
  refine lv_iconst (v := 0) hx hb dX9_beginRun_21 (by decide) ?_
  obtain ⟨S22, e22, hf⟩ := ob hf
  refine rw_putI X dX9_beginRun_22 fl9_144 fw3_1 e22 rfl hP (fun H locs hP => ?_)
  refine rw_aload_n X dX9_beginRun_25 rfl (hl.at 0 rfl) ?_
  refine rw_aload_n X dX9_beginRun_26 rfl (hl.at 2 rfl) ?_
  obtain ⟨v27, e27, hf⟩ := ob hf
  refine rw_getR X dX9_beginRun_27 fl9_133 e27 rfl hP ?_
  obtain ⟨S30, e30, hf⟩ := ob hf
  refine rw_putR X dX9_beginRun_30 fl9_127 fw3_2 e30 rfl hP (fun H locs hP => ?_)
  refine rw_aload_n X dX9_beginRun_33 rfl (hl.at 0 rfl) ?_
  refine lv_iconst (v := 0) hx hb dX9_beginRun_34 (by decide) ?_
  obtain ⟨S35, e35, hf⟩ := ob hf
  refine rw_putI X dX9_beginRun_35 fl9_153 fw3_4 e35 rfl hP (fun H locs hP => ?_)
  refine rw_aload_n X dX9_beginRun_38 rfl (hl.at 2 rfl) ?_
  obtain ⟨v39, e39, hf⟩ := ob hf
  refine rw_getR X dX9_beginRun_39 fl9_133 e39 rfl hP ?_
  refine rv_astore_n X dX9_beginRun_42 rfl hl (by decide) rfl (fun ls hl => ?_)
  have hl : LV ls 4 [(3, va_rf v39), (2, va_rf v1), (0, va_rf l0), (1, va_rf l1)] := hl
  exact wX9_beginRun_43 X FU S35 v39 hf _ _ _ hP (hl.sub [0] rfl)
theorem dX9_act_0 : decode cX9_act 0 = .ok (.aload_n 1, 1) := by decide +kernel
theorem dX9_act_1 : decode cX9_act 1 = .ok (.getfield 60, 3) := by decide +kernel
theorem dX9_act_4 : decode cX9_act 4 = .ok (.getfield 144, 3) := by decide +kernel
theorem dX9_act_7 : decode cX9_act 7 = .ok (.aload_n 1, 1) := by decide +kernel
theorem dX9_act_8 : decode cX9_act 8 = .ok (.getfield 147, 3) := by decide +kernel
theorem dX9_act_11 : decode cX9_act 11 = .ok (.if_icmp .ge 18, 3) := by decide +kernel
theorem dX9_act_14 : decode cX9_act 14 = .ok (.aload_n 1, 1) := by decide +kernel
theorem dX9_act_15 : decode cX9_act 15 = .ok (.getfield 60, 3) := by decide +kernel
theorem dX9_act_18 : decode cX9_act 18 = .ok (.dup, 1) := by decide +kernel
theorem dX9_act_19 : decode cX9_act 19 = .ok (.getfield 144, 3) := by decide +kernel
theorem dX9_act_22 : decode cX9_act 22 = .ok (.iconst 1, 1) := by decide +kernel
theorem dX9_act_23 : decode cX9_act 23 = .ok (.iadd, 1) := by decide +kernel
theorem dX9_act_24 : decode cX9_act 24 = .ok (.putfield 144, 3) := by decide +kernel
theorem dX9_act_27 : decode cX9_act 27 = .ok (.iconst 1, 1) := by decide +kernel
theorem dX9_act_28 : decode cX9_act 28 = .ok (.ireturn, 1) := by decide +kernel
theorem dX9_act_29 : decode cX9_act 29 = .ok (.aload_n 1, 1) := by decide +kernel
theorem dX9_act_30 : decode cX9_act 30 = .ok (.getfield 120, 3) := by decide +kernel
theorem dX9_act_33 : decode cX9_act 33 = .ok (.getfield 93, 3) := by decide +kernel
theorem dX9_act_36 : decode cX9_act 36 = .ok (.ifCond .eq 14, 3) := by decide +kernel
theorem dX9_act_39 : decode cX9_act 39 = .ok (.aload_n 0, 1) := by decide +kernel
theorem dX9_act_40 : decode cX9_act 40 = .ok (.getfield 12, 3) := by decide +kernel
theorem dX9_act_43 : decode cX9_act 43 = .ok (.aload_n 1, 1) := by decide +kernel
theorem dX9_act_44 : decode cX9_act 44 = .ok (.getfield 120, 3) := by decide +kernel
theorem dX9_act_47 : decode cX9_act 47 = .ok (.invokevirtual 98, 3) := by decide +kernel
theorem dX9_act_50 : decode cX9_act 50 = .ok (.iload_n 2, 1) := by decide +kernel
theorem dX9_act_51 : decode cX9_act 51 = .ok (.ireturn, 1) := by decide +kernel
theorem pyX9_act : PY yX9_act 2 := ⟨by decide +kernel, by decide +kernel, by decide +kernel⟩
def fX9_act (Y : LY) (S : HS) (l0 : Option Nat) (l1 : Option Nat) (l2 : Int32) : Option (HS × Int32) :=
  (gR Y 4 403 l1 S).bind fun v1 =>
  (gI Y 3 301 v1 S).bind fun v4 =>
  (gI Y 4 405 l1 S).bind fun v8 =>
  if v8 ≤ v4 then
    (gR Y 4 401 l1 S).bind fun v30 =>
    (gI Y 1 100 v30 S).bind fun v33 =>
    if v33 = 0 then
      some (S, l2)
    else
      (gR Y 9 900 l0 S).bind fun v40 =>
      (gR Y 4 401 l1 S).bind fun v44 =>
      (rcv Y 0 v40).bind fun _ =>
      (fX0_change Y S v40 v44).bind fun S47 =>
      some (S47, l2)
  else
    (gR Y 4 403 l1 S).bind fun v15 =>
    (gI Y 3 301 v15 S).bind fun v19 =>
    (pI Y 3 301 v15 (v19 + 1) S).bind fun S24 =>
    some (S24, 1)
set_option maxRecDepth 100000 in
set_option maxHeartbeats 4000000 in
theorem mX9_act (l : Launch) {G : GG} {Y : LY} {S : HS} {l0 : Option Nat} {l1 : Option Nat} {l2 : Int32} {res : HS × Int32} (hf : fX9_act Y S l0 l1 l2 = some res) : MM l yX9_act cX9_act 3 (some .int) 2 52 G Y S [va_rf l0, va_rf l1, .int l2] res.1 (some (.int res.2)) := by
  refine mm_of2 (plainFor_of_name (by decide +kernel)) (Nat.le_of_ble_eq_true rfl) (c1c (cr _) (c1c (cr _) (c1c (ci _) c1n))) ?_
  intro p e R s m args below meth c X H locs ls hP hl
  have X : Cx p R s m args meth c RX9 cX9_act 3 2 52 (fun q => q ∈ Y.1) G (some .int) := X
  have hx := X.1.1
  have hb := X.1.2.1
  have hl : LV ls 3 [(0, va_rf l0), (1, va_rf l1), (2, .int l2)] := hl
  unfold fX9_act at hf
  refine rw_aload_n X dX9_act_0 rfl (hl.at 1 rfl) ?_
  obtain ⟨v1, e1, hf⟩ := ob hf
  refine rw_getR X dX9_act_1 fl9_60 e1 rfl hP ?_
  obtain ⟨v4, e4, hf⟩ := ob hf
  refine rw_getI X dX9_act_4 fl9_144 e4 rfl hP ?_
  refine rw_aload_n X dX9_act_7 rfl (hl.at 1 rfl) ?_
  obtain ⟨v8, e8, hf⟩ := ob hf
  refine rw_getI X dX9_act_8 fl9_147 e8 rfl hP ?_
  refine lv_icmp_ge hx hb (tgt := 29) dX9_act_11 (by decide) (fun c11 => ?_) (fun c11 => ?_)
  · have hf := ifp hf c11
    refine rw_aload_n X dX9_act_29 rfl (hl.at 1 rfl) ?_
    obtain ⟨v30, e30, hf⟩ := ob hf
    refine rw_getR X dX9_act_30 fl9_120 e30 rfl hP ?_
    obtain ⟨v33, e33, hf⟩ := ob hf
    refine rw_getI X dX9_act_33 fl9_93 e33 rfl hP ?_
    refine lv_if_eq hx hb (tgt := 50) dX9_act_36 (by decide) (fun c36 => ?_) (fun c36 => ?_)
    · have hf := ifp hf c36
      refine lv_iload_n hx hb dX9_act_50 rfl (hl.at 2 rfl) ?_
      cases hf
      exact rw_iret X dX9_act_51 hP
    · have hf := ifn hf c36
      refine rw_aload_n X dX9_act_39 rfl (hl.at 0 rfl) ?_
      obtain ⟨v40, e40, hf⟩ := ob hf
      refine rw_getR X dX9_act_40 fl9_12 e40 rfl hP ?_
      refine rw_aload_n X dX9_act_43 rfl (hl.at 1 rfl) ?_
      obtain ⟨v44, e44, hf⟩ := ob hf
      refine rw_getR X dX9_act_44 fl9_120 e44 rfl hP ?_
      obtain ⟨u47, r47, hf⟩ := ob hf
      obtain ⟨S47, e47, hf⟩ := ob hf
      refine rw_callVv (As := [va_rf v44]) X dX9_act_47 clX9_98 pyX0_change (mX0_change l e47) (by decide) r47 rfl hP rfl (catL c1n (Nat.le_of_ble_eq_true rfl)) hl.1.1 (fun H locs hP => ?_)
      refine lv_iload_n hx hb dX9_act_50 rfl (hl.at 2 rfl) ?_
      cases hf
      exact rw_iret X dX9_act_51 hP
  · have hf := ifn hf c11
    refine rw_aload_n X dX9_act_14 rfl (hl.at 1 rfl) ?_
    obtain ⟨v15, e15, hf⟩ := ob hf
    refine rw_getR X dX9_act_15 fl9_60 e15 rfl hP ?_
    refine lv_dup hx hb dX9_act_18 (cr _) ?_
    obtain ⟨v19, e19, hf⟩ := ob hf
    refine rw_getI X dX9_act_19 fl9_144 e19 rfl hP ?_
    refine lv_iconst (v := 1) hx hb dX9_act_22 (by decide) ?_
    refine lv_iadd hx hb dX9_act_23 ?_
    obtain ⟨S24, e24, hf⟩ := ob hf
    refine rw_putI X dX9_act_24 fl9_144 fw3_1 e24 rfl hP (fun H locs hP => ?_)
    refine lv_iconst (v := 1) hx hb dX9_act_27 (by decide) ?_
    cases hf
    exact rw_iret X dX9_act_28 hP
theorem dX9_goDown_0 : decode cX9_goDown 0 = .ok (.aload_n 0, 1) := by decide +kernel
theorem dX9_goDown_1 : decode cX9_goDown 1 = .ok (.getfield 21, 3) := by decide +kernel
theorem dX9_goDown_4 : decode cX9_goDown 4 = .ok (.aload_n 1, 1) := by decide +kernel
theorem dX9_goDown_5 : decode cX9_goDown 5 = .ok (.putfield 25, 3) := by decide +kernel
theorem dX9_goDown_8 : decode cX9_goDown 8 = .ok (.iconst 0, 1) := by decide +kernel
theorem dX9_goDown_9 : decode cX9_goDown 9 = .ok (.ireturn, 1) := by decide +kernel
theorem pyX9_goDown : PY yX9_goDown 1 := ⟨by decide +kernel, by decide +kernel, by decide +kernel⟩
def fX9_goDown (Y : LY) (S : HS) (l0 : Option Nat) (l1 : Option Nat) : Option (HS × Int32) :=
  (gR Y 9 901 l0 S).bind fun v1 =>
  (pR Y 2 200 v1 l1 S).bind fun S5 =>
  some (S5, 0)
set_option maxRecDepth 100000 in
set_option maxHeartbeats 4000000 in
theorem mX9_goDown (l : Launch) {G : GG} {Y : LY} {S : HS} {l0 : Option Nat} {l1 : Option Nat} {res : HS × Int32} (hf : fX9_goDown Y S l0 l1 = some res) : MM l yX9_goDown cX9_goDown 2 (some .int) 0 0 G Y S [va_rf l0, va_rf l1] res.1 (some (.int res.2)) := by
  refine mm_of2 (plainFor_of_name (by decide +kernel)) (Nat.le_of_ble_eq_true rfl) (c1c (cr _) (c1c (cr _) c1n)) ?_
  intro p e R s m args below meth c X H locs ls hP hl
  have X : Cx p R s m args meth c RX9 cX9_goDown 2 0 0 (fun q => q ∈ Y.1) G (some .int) := X
  have hx := X.1.1
  have hb := X.1.2.1
  have hl : LV ls 2 [(0, va_rf l0), (1, va_rf l1)] := hl
  unfold fX9_goDown at hf
  refine rw_aload_n X dX9_goDown_0 rfl (hl.at 0 rfl) ?_
  obtain ⟨v1, e1, hf⟩ := ob hf
  refine rw_getR X dX9_goDown_1 fl9_21 e1 rfl hP ?_
  refine rw_aload_n X dX9_goDown_4 rfl (hl.at 1 rfl) ?_
  obtain ⟨S5, e5, hf⟩ := ob hf
  refine rw_putR X dX9_goDown_5 fl9_25 fw2_0 e5 rfl hP (fun H locs hP => ?_)
  refine lv_iconst (v := 0) hx hb dX9_goDown_8 (by decide) ?_
  cases hf
  exact rw_iret X dX9_goDown_9 hP
theorem dX9_endRun_0 : decode cX9_endRun 0 = .ok (.aload_n 1, 1) := by decide +kernel
theorem dX9_endRun_1 : decode cX9_endRun 1 = .ok (.getfield 60, 3) := by decide +kernel
theorem dX9_endRun_4 : decode cX9_endRun 4 = .ok (.astore_n 3, 1) := by decide +kernel
theorem dX9_endRun_5 : decode cX9_endRun 5 = .ok (.aload_n 3, 1) := by decide +kernel
theorem dX9_endRun_6 : decode cX9_endRun 6 = .ok (.iconst 0, 1) := by decide +kernel
theorem dX9_endRun_7 : decode cX9_endRun 7 = .ok (.putfield 64, 3) := by decide +kernel
theorem dX9_endRun_10 : decode cX9_endRun 10 = .ok (.iload_n 2, 1) := by decide +kernel
theorem dX9_endRun_11 : decode cX9_endRun 11 = .ok (.lookupswitch 51 #[(2, 25), (3, 38)], 25) := by decide +kernel
theorem dX9_endRun_36 : decode cX9_endRun 36 = .ok (.aload_n 3, 1) := by decide +kernel
theorem dX9_endRun_37 : decode cX9_endRun 37 = .ok (.dup, 1) := by decide +kernel
theorem dX9_endRun_38 : decode cX9_endRun 38 = .ok (.getfield 76, 3) := by decide +kernel
theorem dX9_endRun_41 : decode cX9_endRun 41 = .ok (.iconst 1, 1) := by decide +kernel
theorem dX9_endRun_42 : decode cX9_endRun 42 = .ok (.iadd, 1) := by decide +kernel
theorem dX9_endRun_43 : decode cX9_endRun 43 = .ok (.putfield 76, 3) := by decide +kernel
theorem dX9_endRun_46 : decode cX9_endRun 46 = .ok (.goto 39, 3) := by decide +kernel
theorem dX9_endRun_49 : decode cX9_endRun 49 = .ok (.aload_n 3, 1) := by decide +kernel
theorem dX9_endRun_50 : decode cX9_endRun 50 = .ok (.dup, 1) := by decide +kernel
theorem dX9_endRun_51 : decode cX9_endRun 51 = .ok (.getfield 79, 3) := by decide +kernel
theorem dX9_endRun_54 : decode cX9_endRun 54 = .ok (.iconst 1, 1) := by decide +kernel
theorem dX9_endRun_55 : decode cX9_endRun 55 = .ok (.iadd, 1) := by decide +kernel
theorem dX9_endRun_56 : decode cX9_endRun 56 = .ok (.putfield 79, 3) := by decide +kernel
theorem dX9_endRun_59 : decode cX9_endRun 59 = .ok (.goto 26, 3) := by decide +kernel
theorem dX9_endRun_62 : decode cX9_endRun 62 = .ok (.aload_n 3, 1) := by decide +kernel
theorem dX9_endRun_63 : decode cX9_endRun 63 = .ok (.dup, 1) := by decide +kernel
theorem dX9_endRun_64 : decode cX9_endRun 64 = .ok (.getfield 82, 3) := by decide +kernel
theorem dX9_endRun_67 : decode cX9_endRun 67 = .ok (.iconst 1, 1) := by decide +kernel
theorem dX9_endRun_68 : decode cX9_endRun 68 = .ok (.iadd, 1) := by decide +kernel
theorem dX9_endRun_69 : decode cX9_endRun 69 = .ok (.putfield 82, 3) := by decide +kernel
theorem dX9_endRun_72 : decode cX9_endRun 72 = .ok (.aload_n 0, 1) := by decide +kernel
theorem dX9_endRun_73 : decode cX9_endRun 73 = .ok (.getfield 21, 3) := by decide +kernel
theorem dX9_endRun_76 : decode cX9_endRun 76 = .ok (.dup, 1) := by decide +kernel
theorem dX9_endRun_77 : decode cX9_endRun 77 = .ok (.getfield 85, 3) := by decide +kernel
theorem dX9_endRun_80 : decode cX9_endRun 80 = .ok (.iconst 1, 1) := by decide +kernel
theorem dX9_endRun_81 : decode cX9_endRun 81 = .ok (.iadd, 1) := by decide +kernel
theorem dX9_endRun_82 : decode cX9_endRun 82 = .ok (.putfield 85, 3) := by decide +kernel
theorem dX9_endRun_85 : decode cX9_endRun 85 = .ok (.aload_n 0, 1) := by decide +kernel
theorem dX9_endRun_86 : decode cX9_endRun 86 = .ok (.getfield 21, 3) := by decide +kernel
theorem dX9_endRun_89 : decode cX9_endRun 89 = .ok (.aload_n 1, 1) := by decide +kernel
theorem dX9_endRun_90 : decode cX9_endRun 90 = .ok (.iload_n 2, 1) := by decide +kernel
theorem dX9_endRun_91 : decode cX9_endRun 91 = .ok (.invokevirtual 86, 3) := by decide +kernel
theorem dX9_endRun_94 : decode cX9_endRun 94 = .ok (.aload_n 1, 1) := by decide +kernel
theorem dX9_endRun_95 : decode cX9_endRun 95 = .ok (.getfield 89, 3) := by decide +kernel
theorem dX9_endRun_98 : decode cX9_endRun 98 = .ok (.getfield 93, 3) := by decide +kernel
theorem dX9_endRun_101 : decode cX9_endRun 101 = .ok (.ifCond .eq 27, 3) := by decide +kernel
theorem dX9_endRun_104 : decode cX9_endRun 104 = .ok (.aload_n 0, 1) := by decide +kernel
theorem dX9_endRun_105 : decode cX9_endRun 105 = .ok (.getfield 12, 3) := by decide +kernel
theorem dX9_endRun_108 : decode cX9_endRun 108 = .ok (.aload_n 1, 1) := by decide +kernel
theorem dX9_endRun_109 : decode cX9_endRun 109 = .ok (.getfield 89, 3) := by decide +kernel
theorem dX9_endRun_112 : decode cX9_endRun 112 = .ok (.invokevirtual 98, 3) := by decide +kernel
theorem dX9_endRun_115 : decode cX9_endRun 115 = .ok (.aload_n 0, 1) := by decide +kernel
theorem dX9_endRun_116 : decode cX9_endRun 116 = .ok (.getfield 21, 3) := by decide +kernel
theorem dX9_endRun_119 : decode cX9_endRun 119 = .ok (.dup, 1) := by decide +kernel
theorem dX9_endRun_120 : decode cX9_endRun 120 = .ok (.getfield 102, 3) := by decide +kernel
theorem dX9_endRun_123 : decode cX9_endRun 123 = .ok (.iconst 1, 1) := by decide +kernel
theorem dX9_endRun_124 : decode cX9_endRun 124 = .ok (.iadd, 1) := by decide +kernel
theorem dX9_endRun_125 : decode cX9_endRun 125 = .ok (.putfield 102, 3) := by decide +kernel
theorem dX9_endRun_128 : decode cX9_endRun 128 = .ok (.return_, 1) := by decide +kernel
theorem pyX9_endRun : PY yX9_endRun 2 := ⟨by decide +kernel, by decide +kernel, by decide +kernel⟩
def fX9_endRun_85 (Y : LY) (S : HS) (l0 : Option Nat) (l1 : Option Nat) (l2 : Int32) : Option (HS) :=
  (gR Y 9 901 l0 S).bind fun v86 =>
  (rcv Y 2 v86).bind fun _ =>
  (fX2_enter Y S v86 l1 l2).bind fun S91 =>
  (gR Y 4 402 l1 S91).bind fun v95 =>
  (gI Y 1 100 v95 S91).bind fun v98 =>
  if v98 = 0 then
    some S91
  else
    (gR Y 9 900 l0 S91).bind fun v105 =>
    (gR Y 4 402 l1 S91).bind fun v109 =>
    (rcv Y 0 v105).bind fun _ =>
    (fX0_change Y S91 v105 v109).bind fun S112 =>
    (gR Y 9 901 l0 S112).bind fun v116 =>
    (gI Y 2 206 v116 S112).bind fun v120 =>
    (pI Y 2 206 v116 (v120 + 1) S112).bind fun S125 =>
    some S125
set_option maxRecDepth 100000 in
set_option maxHeartbeats 4000000 in
theorem wX9_endRun_85 {p : Program} {l : Launch} {e : Env} {R : Room} {s : State} {m : MethodId} {args : Array Value} {below : List Frame} {meth : Method} {c : Code} {G : GG} {Y : LY} {res : HS} (X : Cx p R s m args meth c RX9 cX9_endRun 4 2 52 (fun q => q ∈ Y.1) G none) : ∀ (S : HS) (l0 : Option Nat) (l1 : Option Nat) (l2 : Int32), fX9_endRun_85 Y S l0 l1 l2 = some res → ∀ (H : Heap) (locs : List Loc) (ls : Array Slot), HP (fun q => q ∈ Y.1) G Y s S H locs → LV ls 4 [(0, va_rf l0), (1, va_rf l1), (2, .int l2)] → W p l e R s m args below meth c H locs 0 0 (MQ below (QI G Y res none) args s 0 0 (fun q => q ∈ Y.1)) (F0 m 85 ls []) := by
  have hx := X.1.1
  have hb := X.1.2.1
  intro S l0 l1 l2 hf H locs ls hP hl
  unfold fX9_endRun_85 at hf
  refine rw_aload_n X dX9_endRun_85 rfl (hl.at 0 rfl) ?_
  obtain ⟨v86, e86, hf⟩ := ob hf
  refine rw_getR X dX9_endRun_86 fl9_21 e86 rfl hP ?_
  refine rw_aload_n X dX9_endRun_89 rfl (hl.at 1 rfl) ?_
  refine lv_iload_n hx hb dX9_endRun_90 rfl (hl.at 2 rfl) ?_
  obtain ⟨u91, r91, hf⟩ := ob hf
  obtain ⟨S91, e91, hf⟩ := ob hf
  refine rw_callVv (As := [va_rf l1, .int l2]) X dX9_endRun_91 clX9_86 pyX2_enter (mX2_enter l e91) (by decide) r91 rfl hP rfl (catL c1n (Nat.le_of_ble_eq_true rfl)) hl.1.1 (fun H locs hP => ?_)
  refine rw_aload_n X dX9_endRun_94 rfl (hl.at 1 rfl) ?_
  obtain ⟨v95, e95, hf⟩ := ob hf
  refine rw_getR X dX9_endRun_95 fl9_89 e95 rfl hP ?_
  obtain ⟨v98, e98, hf⟩ := ob hf
  refine rw_getI X dX9_endRun_98 fl9_93 e98 rfl hP ?_
  refine lv_if_eq hx hb (tgt := 128) dX9_endRun_101 (by decide) (fun c101 => ?_) (fun c101 => ?_)
  · have hf := ifp hf c101
    cases hf
    exact rw_vret X dX9_endRun_128 hP
  · have hf := ifn hf c101
    refine rw_aload_n X dX9_endRun_104 rfl (hl.at 0 rfl) ?_
    obtain ⟨v105, e105, hf⟩ := ob hf
    refine rw_getR X dX9_endRun_105 fl9_12 e105 rfl hP ?_
    refine rw_aload_n X dX9_endRun_108 rfl (hl.at 1 rfl) ?_
    obtain ⟨v109, e109, hf⟩ := ob hf
    refine rw_getR X dX9_endRun_109 fl9_89 e109 rfl hP ?_
    obtain ⟨u112, r112, hf⟩ := ob hf
    obtain ⟨S112, e112, hf⟩ := ob hf
    refine rw_callVv (As := [va_rf v109]) X dX9_endRun_112 clX9_98 pyX0_change (mX0_change l e112) (by decide) r112 rfl hP rfl (catL c1n (Nat.le_of_ble_eq_true rfl)) hl.1.1 (fun H locs hP => ?_)
    refine rw_aload_n X dX9_endRun_115 rfl (hl.at 0 rfl) ?_
    obtain ⟨v116, e116, hf⟩ := ob hf
    refine rw_getR X dX9_endRun_116 fl9_21 e116 rfl hP ?_
    refine lv_dup hx hb dX9_endRun_119 (cr _) ?_
    obtain ⟨v120, e120, hf⟩ := ob hf
    refine rw_getI X dX9_endRun_120 fl9_102 e120 rfl hP ?_
    refine lv_iconst (v := 1) hx hb dX9_endRun_123 (by decide) ?_
    refine lv_iadd hx hb dX9_endRun_124 ?_
    obtain ⟨S125, e125, hf⟩ := ob hf
    refine rw_putI X dX9_endRun_125 fl9_102 fw2_6 e125 rfl hP (fun H locs hP => ?_)
    cases hf
    exact rw_vret X dX9_endRun_128 hP
def fX9_endRun (Y : LY) (S : HS) (l0 : Option Nat) (l1 : Option Nat) (l2 : Int32) : Option (HS) :=
  (gR Y 4 403 l1 S).bind fun v1 =>
  (pZ Y 3 300 v1 0 S).bind fun S7 =>
  if l2 = 2 then
    (gI Y 3 306 v1 S7).bind fun v38 =>
    (pI Y 3 306 v1 (v38 + 1) S7).bind fun S43 =>
    fX9_endRun_85 Y S43 l0 l1 l2
  else
  if l2 = 3 then
    (gI Y 3 307 v1 S7).bind fun v51 =>
    (pI Y 3 307 v1 (v51 + 1) S7).bind fun S56 =>
    fX9_endRun_85 Y S56 l0 l1 l2
  else
  (gI Y 3 308 v1 S7).bind fun v64 =>
  (pI Y 3 308 v1 (v64 + 1) S7).bind fun S69 =>
  (gR Y 9 901 l0 S69).bind fun v73 =>
  (gI Y 2 205 v73 S69).bind fun v77 =>
  (pI Y 2 205 v73 (v77 + 1) S69).bind fun S82 =>
  fX9_endRun_85 Y S82 l0 l1 l2
set_option maxRecDepth 100000 in
set_option maxHeartbeats 4000000 in
theorem mX9_endRun (l : Launch) {G : GG} {Y : LY} {S : HS} {l0 : Option Nat} {l1 : Option Nat} {l2 : Int32} {res : HS} (hf : fX9_endRun Y S l0 l1 l2 = some res) : MM l yX9_endRun cX9_endRun 4 none 2 52 G Y S [va_rf l0, va_rf l1, .int l2] res none := by
  refine mm_of2 (plainFor_of_name (by decide +kernel)) (Nat.le_of_ble_eq_true rfl) (c1c (cr _) (c1c (cr _) (c1c (ci _) c1n))) ?_
  intro p e R s m args below meth c X H locs ls hP hl
  have X : Cx p R s m args meth c RX9 cX9_endRun 4 2 52 (fun q => q ∈ Y.1) G none := X
  have hx := X.1.1
  have hb := X.1.2.1
  have hl : LV ls 4 [(0, va_rf l0), (1, va_rf l1), (2, .int l2)] := hl
  unfold fX9_endRun at hf
  refine rw_aload_n X dX9_endRun_0 rfl (hl.at 1 rfl) ?_
  obtain ⟨v1, e1, hf⟩ := ob hf
  refine rw_getR X dX9_endRun_1 fl9_60 e1 rfl hP ?_
  refine rv_astore_n X dX9_endRun_4 rfl hl (by decide) rfl (fun ls hl => ?_)
  have hl : LV ls 4 [(3, va_rf v1), (0, va_rf l0), (1, va_rf l1), (2, .int l2)] := hl
  refine rw_aload_n X dX9_endRun_5 rfl (hl.at 0 rfl) ?_
  refine lv_iconst (v := 0) hx hb dX9_endRun_6 (by decide) ?_
  obtain ⟨S7, e7, hf⟩ := ob hf
  refine rw_putZ X dX9_endRun_7 fl9_64 fw3_0 e7 rfl hP (fun H locs hP => ?_)
  refine lv_iload_n hx hb dX9_endRun_10 rfl (hl.at 3 rfl) ?_
  by_cases c11_0 : l2 = 2
  · have hf := ifp hf c11_0
    refine lv_lookup (tgt := 36) hx hb dX9_endRun_11 (by decide) (by rw [c11_0]; try rfl) (by decide) ?_
    refine rw_aload_n X dX9_endRun_36 rfl (hl.at 0 rfl) ?_
    refine lv_dup hx hb dX9_endRun_37 (cr _) ?_
    obtain ⟨v38, e38, hf⟩ := ob hf
    refine rw_getI X dX9_endRun_38 fl9_76 e38 rfl hP ?_
    refine lv_iconst (v := 1) hx hb dX9_endRun_41 (by decide) ?_
    refine lv_iadd hx hb dX9_endRun_42 ?_
    obtain ⟨S43, e43, hf⟩ := ob hf
    refine rw_putI X dX9_endRun_43 fl9_76 fw3_6 e43 rfl hP (fun H locs hP => ?_)
    refine lv_goto (tgt := 85) hx hb dX9_endRun_46 (by decide) ?_
    exact wX9_endRun_85 X S43 l0 l1 l2 hf _ _ _ hP (hl.sub [1, 2, 3] rfl)
  have hf := ifn hf c11_0
  by_cases c11_1 : l2 = 3
  · have hf := ifp hf c11_1
    refine lv_lookup (tgt := 49) hx hb dX9_endRun_11 (by decide) (by rw [c11_1]; try rfl) (by decide) ?_
    refine rw_aload_n X dX9_endRun_49 rfl (hl.at 0 rfl) ?_
    refine lv_dup hx hb dX9_endRun_50 (cr _) ?_
    obtain ⟨v51, e51, hf⟩ := ob hf
    refine rw_getI X dX9_endRun_51 fl9_79 e51 rfl hP ?_
    refine lv_iconst (v := 1) hx hb dX9_endRun_54 (by decide) ?_
    refine lv_iadd hx hb dX9_endRun_55 ?_
    obtain ⟨S56, e56, hf⟩ := ob hf
    refine rw_putI X dX9_endRun_56 fl9_79 fw3_7 e56 rfl hP (fun H locs hP => ?_)
    refine lv_goto (tgt := 85) hx hb dX9_endRun_59 (by decide) ?_
    exact wX9_endRun_85 X S56 l0 l1 l2 hf _ _ _ hP (hl.sub [1, 2, 3] rfl)
  have hf := ifn hf c11_1
  have t11_0 := tsw (k := 2) (v := 2) (by decide) c11_0
  have t11_1 := tsw (k := 3) (v := 3) (by decide) c11_1
  refine lv_lookup (off := 51) (tgt := 62) hx hb dX9_endRun_11 (by decide) (by simp [Op.lookupswitch.offset, t11_0.symm, t11_1.symm]) (by decide) ?_
  refine rw_aload_n X dX9_endRun_62 rfl (hl.at 0 rfl) ?_
  refine lv_dup hx hb dX9_endRun_63 (cr _) ?_
  obtain ⟨v64, e64, hf⟩ := ob hf
  refine rw_getI X dX9_endRun_64 fl9_82 e64 rfl hP ?_
  refine lv_iconst (v := 1) hx hb dX9_endRun_67 (by decide) ?_
  refine lv_iadd hx hb dX9_endRun_68 ?_
  obtain ⟨S69, e69, hf⟩ := ob hf
  refine rw_putI X dX9_endRun_69 fl9_82 fw3_8 e69 rfl hP (fun H locs hP => ?_)
  refine rw_aload_n X dX9_endRun_72 rfl (hl.at 1 rfl) ?_
  obtain ⟨v73, e73, hf⟩ := ob hf
  refine rw_getR X dX9_endRun_73 fl9_21 e73 rfl hP ?_
  refine lv_dup hx hb dX9_endRun_76 (cr _) ?_
  obtain ⟨v77, e77, hf⟩ := ob hf
  refine rw_getI X dX9_endRun_77 fl9_85 e77 rfl hP ?_
  refine lv_iconst (v := 1) hx hb dX9_endRun_80 (by decide) ?_
  refine lv_iadd hx hb dX9_endRun_81 ?_
  obtain ⟨S82, e82, hf⟩ := ob hf
  refine rw_putI X dX9_endRun_82 fl9_85 fw2_5 e82 rfl hP (fun H locs hP => ?_)
  exact wX9_endRun_85 X S82 l0 l1 l2 hf _ _ _ hP (hl.sub [1, 2, 3] rfl)
theorem dX9_stopBack_0 : decode cX9_stopBack 0 = .ok (.aload_n 2, 1) := by decide +kernel
theorem dX9_stopBack_1 : decode cX9_stopBack 1 = .ok (.ifnonnull 4, 3) := by decide +kernel
theorem dX9_stopBack_4 : decode cX9_stopBack 4 = .ok (.return_, 1) := by decide +kernel
theorem dX9_stopBack_5 : decode cX9_stopBack 5 = .ok (.aload_n 1, 1) := by decide +kernel
theorem dX9_stopBack_6 : decode cX9_stopBack 6 = .ok (.getfield 54, 3) := by decide +kernel
theorem dX9_stopBack_9 : decode cX9_stopBack 9 = .ok (.astore_n 3, 1) := by decide +kernel
theorem dX9_stopBack_10 : decode cX9_stopBack 10 = .ok (.aload_n 3, 1) := by decide +kernel
theorem dX9_stopBack_11 : decode cX9_stopBack 11 = .ok (.ifnull 38, 3) := by decide +kernel
theorem dX9_stopBack_14 : decode cX9_stopBack 14 = .ok (.aload_n 3, 1) := by decide +kernel
theorem dX9_stopBack_15 : decode cX9_stopBack 15 = .ok (.getfield 57, 3) := by decide +kernel
theorem dX9_stopBack_18 : decode cX9_stopBack 18 = .ok (.aload_n 2, 1) := by decide +kernel
theorem dX9_stopBack_19 : decode cX9_stopBack 19 = .ok (.getfield 57, 3) := by decide +kernel
theorem dX9_stopBack_22 : decode cX9_stopBack 22 = .ok (.if_icmp .lt 27, 3) := by decide +kernel
theorem dX9_stopBack_25 : decode cX9_stopBack 25 = .ok (.aload_n 3, 1) := by decide +kernel
theorem dX9_stopBack_26 : decode cX9_stopBack 26 = .ok (.getfield 60, 3) := by decide +kernel
theorem dX9_stopBack_29 : decode cX9_stopBack 29 = .ok (.getfield 64, 3) := by decide +kernel
theorem dX9_stopBack_32 : decode cX9_stopBack 32 = .ok (.ifCond .eq 9, 3) := by decide +kernel
theorem dX9_stopBack_35 : decode cX9_stopBack 35 = .ok (.aload_n 0, 1) := by decide +kernel
theorem dX9_stopBack_36 : decode cX9_stopBack 36 = .ok (.aload_n 3, 1) := by decide +kernel
theorem dX9_stopBack_37 : decode cX9_stopBack 37 = .ok (.iconst 4, 1) := by decide +kernel
theorem dX9_stopBack_38 : decode cX9_stopBack 38 = .ok (.invokevirtual 70, 3) := by decide +kernel
theorem dX9_stopBack_41 : decode cX9_stopBack 41 = .ok (.aload_n 3, 1) := by decide +kernel
theorem dX9_stopBack_42 : decode cX9_stopBack 42 = .ok (.getfield 73, 3) := by decide +kernel
theorem dX9_stopBack_45 : decode cX9_stopBack 45 = .ok (.astore_n 3, 1) := by decide +kernel
theorem dX9_stopBack_46 : decode cX9_stopBack 46 = .ok (.goto (-36), 3) := by decide +kernel
theorem dX9_stopBack_49 : decode cX9_stopBack 49 = .ok (.return_, 1) := by decide +kernel
theorem pyX9_stopBack : PY yX9_stopBack 2 := ⟨by decide +kernel, by decide +kernel, by decide +kernel⟩
def fX9_stopBack_10 (Y : LY) : Nat → HS → Option Nat → Option Nat → Option Nat → Option (HS)
  | 0, _, _, _, _ => none
  | n + 1, S, l0, l2, l3 =>
    if l3 = none then
      some S
    else
      (gI Y 4 400 l3 S).bind fun v15 =>
      (gI Y 4 400 l2 S).bind fun v19 =>
      if v15 < v19 then
        some S
      else
        (gR Y 4 403 l3 S).bind fun v26 =>
        (gI Y 3 300 v26 S).bind fun v29 =>
        if v29 = 0 then
          (gR Y 4 408 l3 S).bind fun v42 =>
          fX9_stopBack_10 Y n S l0 l2 v42
        else
          (rcv Y 9 l0).bind fun _ =>
          (fX9_endRun Y S l0 l3 4).bind fun S38 =>
          (gR Y 4 408 l3 S38).bind fun v42 =>
          fX9_stopBack_10 Y n S38 l0 l2 v42
set_option maxRecDepth 100000 in
set_option maxHeartbeats 4000000 in
theorem wX9_stopBack_10 {p : Program} {l : Launch} {e : Env} {R : Room} {s : State} {m : MethodId} {args : Array Value} {below : List Frame} {meth : Method} {c : Code} {G : GG} {Y : LY} {res : HS} (X : Cx p R s m args meth c RX9 cX9_stopBack 4 3 75 (fun q => q ∈ Y.1) G none) : ∀ (n : Nat) (S : HS) (l0 : Option Nat) (l2 : Option Nat) (l3 : Option Nat), fX9_stopBack_10 Y n S l0 l2 l3 = some res → ∀ (H : Heap) (locs : List Loc) (ls : Array Slot), HP (fun q => q ∈ Y.1) G Y s S H locs → LV ls 4 [(0, va_rf l0), (2, va_rf l2), (3, va_rf l3)] → W p l e R s m args below meth c H locs 0 0 (MQ below (QI G Y res none) args s 0 0 (fun q => q ∈ Y.1)) (F0 m 10 ls []) := by
  have hx := X.1.1
  have hb := X.1.2.1
  intro n
  induction n with
  | zero =>
    intro S l0 l2 l3 hf
    cases hf
  | succ n ih =>
    intro S l0 l2 l3 hf H locs ls hP hl
    rw [fX9_stopBack_10] at hf
    refine rw_aload_n X dX9_stopBack_10 rfl (hl.at 2 rfl) ?_
    refine rw_ifnull X (tgt := 49) dX9_stopBack_11 (by decide) (fun c11 => ?_) (fun c11 => ?_)
    · have hf := ifp hf c11
      cases hf
      exact rw_vret X dX9_stopBack_49 hP
    · have hf := ifn hf c11
      refine rw_aload_n X dX9_stopBack_14 rfl (hl.at 2 rfl) ?_
      obtain ⟨v15, e15, hf⟩ := ob hf
      refine rw_getI X dX9_stopBack_15 fl9_57 e15 rfl hP ?_
      refine rw_aload_n X dX9_stopBack_18 rfl (hl.at 1 rfl) ?_
      obtain ⟨v19, e19, hf⟩ := ob hf
      refine rw_getI X dX9_stopBack_19 fl9_57 e19 rfl hP ?_
      refine lv_icmp_lt hx hb (tgt := 49) dX9_stopBack_22 (by decide) (fun c22 => ?_) (fun c22 => ?_)
      · have hf := ifp hf c22
        cases hf
        exact rw_vret X dX9_stopBack_49 hP
      · have hf := ifn hf c22
        refine rw_aload_n X dX9_stopBack_25 rfl (hl.at 2 rfl) ?_
        obtain ⟨v26, e26, hf⟩ := ob hf
        refine rw_getR X dX9_stopBack_26 fl9_60 e26 rfl hP ?_
        obtain ⟨v29, e29, hf⟩ := ob hf
        refine rw_getI X dX9_stopBack_29 fl9_64 e29 rfl hP ?_
        refine lv_if_eq hx hb (tgt := 41) dX9_stopBack_32 (by decide) (fun c32 => ?_) (fun c32 => ?_)
        · have hf := ifp hf c32
          refine rw_aload_n X dX9_stopBack_41 rfl (hl.at 2 rfl) ?_
          obtain ⟨v42, e42, hf⟩ := ob hf
          refine rw_getR X dX9_stopBack_42 fl9_73 e42 rfl hP ?_
          refine rv_astore_n X dX9_stopBack_45 rfl hl (by decide) rfl (fun ls hl => ?_)
          have hl : LV ls 4 [(3, va_rf v42), (0, va_rf l0), (2, va_rf l2)] := hl
          refine lv_goto (tgt := 10) hx hb dX9_stopBack_46 (by decide) ?_
          exact ih S l0 l2 v42 hf _ _ _ hP (hl.sub [1, 2, 0] rfl)
        · have hf := ifn hf c32
          refine rw_aload_n X dX9_stopBack_35 rfl (hl.at 0 rfl) ?_
          refine rw_aload_n X dX9_stopBack_36 rfl (hl.at 2 rfl) ?_
          refine lv_iconst (v := 4) hx hb dX9_stopBack_37 (by decide) ?_
          obtain ⟨u38, r38, hf⟩ := ob hf
          obtain ⟨S38, e38, hf⟩ := ob hf
          refine rw_callVv (As := [va_rf l3, .int 4]) X dX9_stopBack_38 clX9_70 pyX9_endRun (mX9_endRun l e38) (by decide) r38 rfl hP rfl (catL c1n (Nat.le_of_ble_eq_true rfl)) hl.1.1 (fun H locs hP => ?_)
          refine rw_aload_n X dX9_stopBack_41 rfl (hl.at 2 rfl) ?_
          obtain ⟨v42, e42, hf⟩ := ob hf
          refine rw_getR X dX9_stopBack_42 fl9_73 e42 rfl hP ?_
          refine rv_astore_n X dX9_stopBack_45 rfl hl (by decide) rfl (fun ls hl => ?_)
          have hl : LV ls 4 [(3, va_rf v42), (0, va_rf l0), (2, va_rf l2)] := hl
          refine lv_goto (tgt := 10) hx hb dX9_stopBack_46 (by decide) ?_
          exact ih S38 l0 l2 v42 hf _ _ _ hP (hl.sub [1, 2, 0] rfl)
def fX9_stopBack (Y : LY) (S : HS) (l0 : Option Nat) (l1 : Option Nat) (l2 : Option Nat) : Option (HS) :=
  if l2 = none then
    some S
  else
    (gR Y 4 413 l1 S).bind fun v6 =>
    fX9_stopBack_10 Y FU S l0 l2 v6
set_option maxRecDepth 100000 in
set_option maxHeartbeats 4000000 in
theorem mX9_stopBack (l : Launch) {G : GG} {Y : LY} {S : HS} {l0 : Option Nat} {l1 : Option Nat} {l2 : Option Nat} {res : HS} (hf : fX9_stopBack Y S l0 l1 l2 = some res) : MM l yX9_stopBack cX9_stopBack 4 none 3 75 G Y S [va_rf l0, va_rf l1, va_rf l2] res none := by
  refine mm_of2 (plainFor_of_name (by decide +kernel)) (Nat.le_of_ble_eq_true rfl) (c1c (cr _) (c1c (cr _) (c1c (cr _) c1n))) ?_
  intro p e R s m args below meth c X H locs ls hP hl
  have X : Cx p R s m args meth c RX9 cX9_stopBack 4 3 75 (fun q => q ∈ Y.1) G none := X
  have hx := X.1.1
  have hb := X.1.2.1
  have hl : LV ls 4 [(0, va_rf l0), (1, va_rf l1), (2, va_rf l2)] := hl
  unfold fX9_stopBack at hf
  refine rw_aload_n X dX9_stopBack_0 rfl (hl.at 2 rfl) ?_
  refine rw_ifnonnull X (tgt := 5) dX9_stopBack_1 (by decide) (fun c1 => ?_) (fun c1 => ?_)
  · have hf := ifn hf c1
    refine rw_aload_n X dX9_stopBack_5 rfl (hl.at 1 rfl) ?_
    obtain ⟨v6, e6, hf⟩ := ob hf
    refine rw_getR X dX9_stopBack_6 fl9_54 e6 rfl hP ?_
    refine rv_astore_n X dX9_stopBack_9 rfl hl (by decide) rfl (fun ls hl => ?_)
    have hl : LV ls 4 [(3, va_rf v6), (0, va_rf l0), (1, va_rf l1), (2, va_rf l2)] := hl
    exact wX9_stopBack_10 X FU S l0 l2 v6 hf _ _ _ hP (hl.sub [1, 3, 0] rfl)
  · have hf := ifp hf c1
    cases hf
    exact rw_vret X dX9_stopBack_4 hP
theorem dX9_goOnInParallel_0 : decode cX9_goOnInParallel 0 = .ok (.aload_n 2, 1) := by decide +kernel
theorem dX9_goOnInParallel_1 : decode cX9_goOnInParallel 1 = .ok (.astore_n 3, 1) := by decide +kernel
theorem dX9_goOnInParallel_2 : decode cX9_goOnInParallel 2 = .ok (.aload_n 3, 1) := by decide +kernel
theorem dX9_goOnInParallel_3 : decode cX9_goOnInParallel 3 = .ok (.ifnull 39, 3) := by decide +kernel
theorem dX9_goOnInParallel_6 : decode cX9_goOnInParallel 6 = .ok (.aload_n 3, 1) := by decide +kernel
theorem dX9_goOnInParallel_7 : decode cX9_goOnInParallel 7 = .ok (.getfield 60, 3) := by decide +kernel
theorem dX9_goOnInParallel_10 : decode cX9_goOnInParallel 10 = .ok (.getfield 156, 3) := by decide +kernel
theorem dX9_goOnInParallel_13 : decode cX9_goOnInParallel 13 = .ok (.iconst 2, 1) := by decide +kernel
theorem dX9_goOnInParallel_14 : decode cX9_goOnInParallel 14 = .ok (.if_icmp .eq 20, 3) := by decide +kernel
theorem dX9_goOnInParallel_17 : decode cX9_goOnInParallel 17 = .ok (.aload_n 3, 1) := by decide +kernel
theorem dX9_goOnInParallel_18 : decode cX9_goOnInParallel 18 = .ok (.getfield 60, 3) := by decide +kernel
theorem dX9_goOnInParallel_21 : decode cX9_goOnInParallel 21 = .ok (.getfield 156, 3) := by decide +kernel
theorem dX9_goOnInParallel_24 : decode cX9_goOnInParallel 24 = .ok (.iconst 3, 1) := by decide +kernel
theorem dX9_goOnInParallel_25 : decode cX9_goOnInParallel 25 = .ok (.if_icmp .eq 9, 3) := by decide +kernel
theorem dX9_goOnInParallel_28 : decode cX9_goOnInParallel 28 = .ok (.aload_n 0, 1) := by decide +kernel
theorem dX9_goOnInParallel_29 : decode cX9_goOnInParallel 29 = .ok (.aload_n 3, 1) := by decide +kernel
theorem dX9_goOnInParallel_30 : decode cX9_goOnInParallel 30 = .ok (.invokevirtual 130, 3) := by decide +kernel
theorem dX9_goOnInParallel_33 : decode cX9_goOnInParallel 33 = .ok (.ireturn, 1) := by decide +kernel
theorem dX9_goOnInParallel_34 : decode cX9_goOnInParallel 34 = .ok (.aload_n 3, 1) := by decide +kernel
theorem dX9_goOnInParallel_35 : decode cX9_goOnInParallel 35 = .ok (.getfield 159, 3) := by decide +kernel
theorem dX9_goOnInParallel_38 : decode cX9_goOnInParallel 38 = .ok (.astore_n 3, 1) := by decide +kernel
theorem dX9_goOnInParallel_39 : decode cX9_goOnInParallel 39 = .ok (.goto (-37), 3) := by decide +kernel
theorem dX9_goOnInParallel_42 : decode cX9_goOnInParallel 42 = .ok (.iconst 0, 1) := by decide +kernel
theorem dX9_goOnInParallel_43 : decode cX9_goOnInParallel 43 = .ok (.istore_n 3, 1) := by decide +kernel
theorem dX9_goOnInParallel_44 : decode cX9_goOnInParallel 44 = .ok (.iconst 0, 1) := by decide +kernel
theorem dX9_goOnInParallel_45 : decode cX9_goOnInParallel 45 = .ok (.istore 4, 2) := by decide +kernel
theorem dX9_goOnInParallel_47 : decode cX9_goOnInParallel 47 = .ok (.aload_n 1, 1) := by decide +kernel
theorem dX9_goOnInParallel_48 : decode cX9_goOnInParallel 48 = .ok (.getfield 133, 3) := by decide +kernel
theorem dX9_goOnInParallel_51 : decode cX9_goOnInParallel 51 = .ok (.astore 5, 2) := by decide +kernel
theorem dX9_goOnInParallel_53 : decode cX9_goOnInParallel 53 = .ok (.aload 5, 2) := by decide +kernel
theorem dX9_goOnInParallel_55 : decode cX9_goOnInParallel 55 = .ok (.ifnull 55, 3) := by decide +kernel
theorem dX9_goOnInParallel_58 : decode cX9_goOnInParallel 58 = .ok (.iload_n 3, 1) := by decide +kernel
theorem dX9_goOnInParallel_59 : decode cX9_goOnInParallel 59 = .ok (.aload 5, 2) := by decide +kernel
theorem dX9_goOnInParallel_61 : decode cX9_goOnInParallel 61 = .ok (.getfield 60, 3) := by decide +kernel
theorem dX9_goOnInParallel_64 : decode cX9_goOnInParallel 64 = .ok (.getfield 156, 3) := by decide +kernel
theorem dX9_goOnInParallel_67 : decode cX9_goOnInParallel 67 = .ok (.iconst 2, 1) := by decide +kernel
theorem dX9_goOnInParallel_68 : decode cX9_goOnInParallel 68 = .ok (.if_icmp .ne 7, 3) := by decide +kernel
theorem dX9_goOnInParallel_71 : decode cX9_goOnInParallel 71 = .ok (.iconst 1, 1) := by decide +kernel
theorem dX9_goOnInParallel_72 : decode cX9_goOnInParallel 72 = .ok (.goto 4, 3) := by decide +kernel
theorem dX9_goOnInParallel_75 : decode cX9_goOnInParallel 75 = .ok (.iconst 0, 1) := by decide +kernel
theorem dX9_goOnInParallel_76 : decode cX9_goOnInParallel 76 = .ok (.iadd, 1) := by decide +kernel
theorem dX9_goOnInParallel_77 : decode cX9_goOnInParallel 77 = .ok (.istore_n 3, 1) := by decide +kernel
theorem dX9_goOnInParallel_78 : decode cX9_goOnInParallel 78 = .ok (.iload 4, 2) := by decide +kernel
theorem dX9_goOnInParallel_80 : decode cX9_goOnInParallel 80 = .ok (.aload 5, 2) := by decide +kernel
theorem dX9_goOnInParallel_82 : decode cX9_goOnInParallel 82 = .ok (.getfield 60, 3) := by decide +kernel
theorem dX9_goOnInParallel_85 : decode cX9_goOnInParallel 85 = .ok (.getfield 156, 3) := by decide +kernel
theorem dX9_goOnInParallel_88 : decode cX9_goOnInParallel 88 = .ok (.iconst 3, 1) := by decide +kernel
theorem dX9_goOnInParallel_89 : decode cX9_goOnInParallel 89 = .ok (.if_icmp .ne 7, 3) := by decide +kernel
theorem dX9_goOnInParallel_92 : decode cX9_goOnInParallel 92 = .ok (.iconst 1, 1) := by decide +kernel
theorem dX9_goOnInParallel_93 : decode cX9_goOnInParallel 93 = .ok (.goto 4, 3) := by decide +kernel
theorem dX9_goOnInParallel_96 : decode cX9_goOnInParallel 96 = .ok (.iconst 0, 1) := by decide +kernel
theorem dX9_goOnInParallel_97 : decode cX9_goOnInParallel 97 = .ok (.iadd, 1) := by decide +kernel
theorem dX9_goOnInParallel_98 : decode cX9_goOnInParallel 98 = .ok (.istore 4, 2) := by decide +kernel
theorem dX9_goOnInParallel_100 : decode cX9_goOnInParallel 100 = .ok (.aload 5, 2) := by decide +kernel
theorem dX9_goOnInParallel_102 : decode cX9_goOnInParallel 102 = .ok (.getfield 159, 3) := by decide +kernel
theorem dX9_goOnInParallel_105 : decode cX9_goOnInParallel 105 = .ok (.astore 5, 2) := by decide +kernel
theorem dX9_goOnInParallel_107 : decode cX9_goOnInParallel 107 = .ok (.goto (-54), 3) := by decide +kernel
theorem dX9_goOnInParallel_110 : decode cX9_goOnInParallel 110 = .ok (.iload_n 3, 1) := by decide +kernel
theorem dX9_goOnInParallel_111 : decode cX9_goOnInParallel 111 = .ok (.aload_n 1, 1) := by decide +kernel
theorem dX9_goOnInParallel_112 : decode cX9_goOnInParallel 112 = .ok (.getfield 147, 3) := by decide +kernel
theorem dX9_goOnInParallel_115 : decode cX9_goOnInParallel 115 = .ok (.if_icmp .ge 19, 3) := by decide +kernel
theorem dX9_goOnInParallel_118 : decode cX9_goOnInParallel 118 = .ok (.iload 4, 2) := by decide +kernel
theorem dX9_goOnInParallel_120 : decode cX9_goOnInParallel 120 = .ok (.aload_n 1, 1) := by decide +kernel
theorem dX9_goOnInParallel_121 : decode cX9_goOnInParallel 121 = .ok (.getfield 178, 3) := by decide +kernel
theorem dX9_goOnInParallel_124 : decode cX9_goOnInParallel 124 = .ok (.aload_n 1, 1) := by decide +kernel
theorem dX9_goOnInParallel_125 : decode cX9_goOnInParallel 125 = .ok (.getfield 147, 3) := by decide +kernel
theorem dX9_goOnInParallel_128 : decode cX9_goOnInParallel 128 = .ok (.isub, 1) := by decide +kernel
theorem dX9_goOnInParallel_129 : decode cX9_goOnInParallel 129 = .ok (.if_icmp .gt 5, 3) := by decide +kernel
theorem dX9_goOnInParallel_132 : decode cX9_goOnInParallel 132 = .ok (.iconst 1, 1) := by decide +kernel
theorem dX9_goOnInParallel_133 : decode cX9_goOnInParallel 133 = .ok (.ireturn, 1) := by decide +kernel
theorem dX9_goOnInParallel_134 : decode cX9_goOnInParallel 134 = .ok (.aload_n 0, 1) := by decide +kernel
theorem dX9_goOnInParallel_135 : decode cX9_goOnInParallel 135 = .ok (.aload_n 1, 1) := by decide +kernel
theorem dX9_goOnInParallel_136 : decode cX9_goOnInParallel 136 = .ok (.aload_n 1, 1) := by decide +kernel
theorem dX9_goOnInParallel_137 : decode cX9_goOnInParallel 137 = .ok (.getfield 133, 3) := by decide +kernel
theorem dX9_goOnInParallel_140 : decode cX9_goOnInParallel 140 = .ok (.invokevirtual 162, 3) := by decide +kernel
theorem dX9_goOnInParallel_143 : decode cX9_goOnInParallel 143 = .ok (.iload_n 3, 1) := by decide +kernel
theorem dX9_goOnInParallel_144 : decode cX9_goOnInParallel 144 = .ok (.aload_n 1, 1) := by decide +kernel
theorem dX9_goOnInParallel_145 : decode cX9_goOnInParallel 145 = .ok (.getfield 147, 3) := by decide +kernel
theorem dX9_goOnInParallel_148 : decode cX9_goOnInParallel 148 = .ok (.if_icmp .lt 7, 3) := by decide +kernel
theorem dX9_goOnInParallel_151 : decode cX9_goOnInParallel 151 = .ok (.iconst 2, 1) := by decide +kernel
theorem dX9_goOnInParallel_152 : decode cX9_goOnInParallel 152 = .ok (.goto 4, 3) := by decide +kernel
theorem dX9_goOnInParallel_155 : decode cX9_goOnInParallel 155 = .ok (.iconst 3, 1) := by decide +kernel
theorem dX9_goOnInParallel_156 : decode cX9_goOnInParallel 156 = .ok (.ireturn, 1) := by decide +kernel
theorem pyX9_goOnInParallel : PY yX9_goOnInParallel 2 := ⟨by decide +kernel, by decide +kernel, by decide +kernel⟩
def fX9_goOnInParallel_134 (Y : LY) (S : HS) (l0 : Option Nat) (l1 : Option Nat) (l3 : Int32) : Option (HS × Int32) :=
  (gR Y 4 410 l1 S).bind fun v137 =>
  (rcv Y 9 l0).bind fun _ =>
  (fX9_stopBack Y S l0 l1 v137).bind fun S140 =>
  (gI Y 4 405 l1 S140).bind fun v145 =>
  if l3 < v145 then
    some (S140, 3)
  else
    some (S140, 2)
set_option maxRecDepth 100000 in
set_option maxHeartbeats 4000000 in
theorem wX9_goOnInParallel_134 {p : Program} {l : Launch} {e : Env} {R : Room} {s : State} {m : MethodId} {args : Array Value} {below : List Frame} {meth : Method} {c : Code} {G : GG} {Y : LY} {res : HS × Int32} (X : Cx p R s m args meth c RX9 cX9_goOnInParallel 6 4 98 (fun q => q ∈ Y.1) G (some .int)) : ∀ (S : HS) (l0 : Option Nat) (l1 : Option Nat) (l3 : Int32), fX9_goOnInParallel_134 Y S l0 l1 l3 = some res → ∀ (H : Heap) (locs : List Loc) (ls : Array Slot), HP (fun q => q ∈ Y.1) G Y s S H locs → LV ls 6 [(0, va_rf l0), (1, va_rf l1), (3, .int l3)] → W p l e R s m args below meth c H locs 0 0 (MQ below (QI G Y res.1 (some (.int res.2))) args s 0 0 (fun q => q ∈ Y.1)) (F0 m 134 ls []) := by
  have hx := X.1.1
  have hb := X.1.2.1
  intro S l0 l1 l3 hf H locs ls hP hl
  unfold fX9_goOnInParallel_134 at hf
  refine rw_aload_n X dX9_goOnInParallel_134 rfl (hl.at 0 rfl) ?_
  refine rw_aload_n X dX9_goOnInParallel_135 rfl (hl.at 1 rfl) ?_
  refine rw_aload_n X dX9_goOnInParallel_136 rfl (hl.at 1 rfl) ?_
  obtain ⟨v137, e137, hf⟩ := ob hf
  refine rw_getR X dX9_goOnInParallel_137 fl9_133 e137 rfl hP ?_
  obtain ⟨u140, r140, hf⟩ := ob hf
  obtain ⟨S140, e140, hf⟩ := ob hf
  refine rw_callVv (As := [va_rf l1, va_rf v137]) X dX9_goOnInParallel_140 clX9_162 pyX9_stopBack (mX9_stopBack l e140) (by decide) r140 rfl hP rfl (catL c1n (Nat.le_of_ble_eq_true rfl)) hl.1.1 (fun H locs hP => ?_)
  refine lv_iload_n hx hb dX9_goOnInParallel_143 rfl (hl.at 2 rfl) ?_
  refine rw_aload_n X dX9_goOnInParallel_144 rfl (hl.at 1 rfl) ?_
  obtain ⟨v145, e145, hf⟩ := ob hf
  refine rw_getI X dX9_goOnInParallel_145 fl9_147 e145 rfl hP ?_
  refine lv_icmp_lt hx hb (tgt := 155) dX9_goOnInParallel_148 (by decide) (fun c148 => ?_) (fun c148 => ?_)
  · have hf := ifp hf c148
    refine lv_iconst (v := 3) hx hb dX9_goOnInParallel_155 (by decide) ?_
    cases hf
    exact rw_iret X dX9_goOnInParallel_156 hP
  · have hf := ifn hf c148
    refine lv_iconst (v := 2) hx hb dX9_goOnInParallel_151 (by decide) ?_
    refine lv_goto (tgt := 156) hx hb dX9_goOnInParallel_152 (by decide) ?_
    cases hf
    exact rw_iret X dX9_goOnInParallel_156 hP
def fX9_goOnInParallel_76 (k53 : HS → Option Nat → Option Nat → Int32 → Int32 → Option Nat → Option (HS × Int32)) (Y : LY) (S : HS) (l0 : Option Nat) (l1 : Option Nat) (l4 : Int32) (l5 : Option Nat) (s0 : Int32) (s1 : Int32) : Option (HS × Int32) :=
  (gR Y 4 403 l5 S).bind fun v82 =>
  (gI Y 3 303 v82 S).bind fun v85 =>
  if v85 = 3 then
    (gR Y 4 412 l5 S).bind fun v102 =>
    k53 S l0 l1 (s0 + s1) (l4 + 1) v102
  else
    (gR Y 4 412 l5 S).bind fun v102 =>
    k53 S l0 l1 (s0 + s1) (l4 + 0) v102
set_option maxRecDepth 100000 in
set_option maxHeartbeats 4000000 in
theorem wX9_goOnInParallel_76 {p : Program} {l : Launch} {e : Env} {R : Room} {s : State} {m : MethodId} {args : Array Value} {below : List Frame} {meth : Method} {c : Code} {G : GG} {Y : LY} {res : HS × Int32} (X : Cx p R s m args meth c RX9 cX9_goOnInParallel 6 4 98 (fun q => q ∈ Y.1) G (some .int)) {k53 : HS → Option Nat → Option Nat → Int32 → Int32 → Option Nat → Option (HS × Int32)} (hk53 : ∀ (S : HS) (l0 : Option Nat) (l1 : Option Nat) (l3 : Int32) (l4 : Int32) (l5 : Option Nat), k53 S l0 l1 l3 l4 l5 = some res → ∀ (H : Heap) (locs : List Loc) (ls : Array Slot), HP (fun q => q ∈ Y.1) G Y s S H locs → LV ls 6 [(0, va_rf l0), (1, va_rf l1), (3, .int l3), (4, .int l4), (5, va_rf l5)] → W p l e R s m args below meth c H locs 0 0 (MQ below (QI G Y res.1 (some (.int res.2))) args s 0 0 (fun q => q ∈ Y.1)) (F0 m 53 ls [])) : ∀ (S : HS) (l0 : Option Nat) (l1 : Option Nat) (l4 : Int32) (l5 : Option Nat) (s0 : Int32) (s1 : Int32), fX9_goOnInParallel_76 k53 Y S l0 l1 l4 l5 s0 s1 = some res → ∀ (H : Heap) (locs : List Loc) (ls : Array Slot), HP (fun q => q ∈ Y.1) G Y s S H locs → LV ls 6 [(0, va_rf l0), (1, va_rf l1), (4, .int l4), (5, va_rf l5)] → W p l e R s m args below meth c H locs 0 0 (MQ below (QI G Y res.1 (some (.int res.2))) args s 0 0 (fun q => q ∈ Y.1)) (F0 m 76 ls (.int s1 :: (.int s0 :: []))) := by
  have hx := X.1.1
  have hb := X.1.2.1
  intro S l0 l1 l4 l5 s0 s1 hf H locs ls hP hl
  unfold fX9_goOnInParallel_76 at hf
  refine lv_iadd hx hb dX9_goOnInParallel_76 ?_
  refine rv_istore_n X dX9_goOnInParallel_77 rfl hl (by decide) rfl (fun ls hl => ?_)
  have hl : LV ls 6 [(3, .int (s0 + s1)), (0, va_rf l0), (1, va_rf l1), (4, .int l4), (5, va_rf l5)] := hl
  refine lv_iload hx hb dX9_goOnInParallel_78 (hl.at 3 rfl) ?_
  refine rw_aload X dX9_goOnInParallel_80 (hl.at 4 rfl) ?_
  obtain ⟨v82, e82, hf⟩ := ob hf
  refine rw_getR X dX9_goOnInParallel_82 fl9_60 e82 rfl hP ?_
  obtain ⟨v85, e85, hf⟩ := ob hf
  refine rw_getI X dX9_goOnInParallel_85 fl9_156 e85 rfl hP ?_
  refine lv_iconst (v := 3) hx hb dX9_goOnInParallel_88 (by decide) ?_
  refine lv_icmp_ne hx hb (tgt := 96) dX9_goOnInParallel_89 (by decide) (fun c89 => ?_) (fun c89 => ?_)
  · have hf := ifn hf c89
    refine lv_iconst (v := 0) hx hb dX9_goOnInParallel_96 (by decide) ?_
    refine lv_iadd hx hb dX9_goOnInParallel_97 ?_
    refine rv_istore X dX9_goOnInParallel_98 hl (by decide) rfl (fun ls hl => ?_)
    have hl : LV ls 6 [(4, .int (l4 + 0)), (3, .int (s0 + s1)), (0, va_rf l0), (1, va_rf l1), (5, va_rf l5)] := hl
    refine rw_aload X dX9_goOnInParallel_100 (hl.at 4 rfl) ?_
    obtain ⟨v102, e102, hf⟩ := ob hf
    refine rw_getR X dX9_goOnInParallel_102 fl9_159 e102 rfl hP ?_
    refine rv_astore X dX9_goOnInParallel_105 hl (by decide) rfl (fun ls hl => ?_)
    have hl : LV ls 6 [(5, va_rf v102), (4, .int (l4 + 0)), (3, .int (s0 + s1)), (0, va_rf l0), (1, va_rf l1)] := hl
    refine lv_goto (tgt := 53) hx hb dX9_goOnInParallel_107 (by decide) ?_
    exact hk53 S l0 l1 (s0 + s1) (l4 + 0) v102 hf _ _ _ hP (hl.sub [3, 4, 2, 1, 0] rfl)
  · have hf := ifp hf c89
    refine lv_iconst (v := 1) hx hb dX9_goOnInParallel_92 (by decide) ?_
    refine lv_goto (tgt := 97) hx hb dX9_goOnInParallel_93 (by decide) ?_
    refine lv_iadd hx hb dX9_goOnInParallel_97 ?_
    refine rv_istore X dX9_goOnInParallel_98 hl (by decide) rfl (fun ls hl => ?_)
    have hl : LV ls 6 [(4, .int (l4 + 1)), (3, .int (s0 + s1)), (0, va_rf l0), (1, va_rf l1), (5, va_rf l5)] := hl
    refine rw_aload X dX9_goOnInParallel_100 (hl.at 4 rfl) ?_
    obtain ⟨v102, e102, hf⟩ := ob hf
    refine rw_getR X dX9_goOnInParallel_102 fl9_159 e102 rfl hP ?_
    refine rv_astore X dX9_goOnInParallel_105 hl (by decide) rfl (fun ls hl => ?_)
    have hl : LV ls 6 [(5, va_rf v102), (4, .int (l4 + 1)), (3, .int (s0 + s1)), (0, va_rf l0), (1, va_rf l1)] := hl
    refine lv_goto (tgt := 53) hx hb dX9_goOnInParallel_107 (by decide) ?_
    exact hk53 S l0 l1 (s0 + s1) (l4 + 1) v102 hf _ _ _ hP (hl.sub [3, 4, 2, 1, 0] rfl)
def fX9_goOnInParallel_53 (Y : LY) : Nat → HS → Option Nat → Option Nat → Int32 → Int32 → Option Nat → Option (HS × Int32)
  | 0, _, _, _, _, _, _ => none
  | n + 1, S, l0, l1, l3, l4, l5 =>
    if l5 = none then
      (gI Y 4 405 l1 S).bind fun v112 =>
      if v112 ≤ l3 then
        fX9_goOnInParallel_134 Y S l0 l1 l3
      else
        (gI Y 4 407 l1 S).bind fun v121 =>
        (gI Y 4 405 l1 S).bind fun v125 =>
        if (v121 - v125) < l4 then
          fX9_goOnInParallel_134 Y S l0 l1 l3
        else
          some (S, 1)
    else
      (gR Y 4 403 l5 S).bind fun v61 =>
      (gI Y 3 303 v61 S).bind fun v64 =>
      if v64 = 2 then
        fX9_goOnInParallel_76 (fX9_goOnInParallel_53 Y n) Y S l0 l1 l4 l5 l3 1
      else
        fX9_goOnInParallel_76 (fX9_goOnInParallel_53 Y n) Y S l0 l1 l4 l5 l3 0
set_option maxRecDepth 100000 in
set_option maxHeartbeats 4000000 in
theorem wX9_goOnInParallel_53 {p : Program} {l : Launch} {e : Env} {R : Room} {s : State} {m : MethodId} {args : Array Value} {below : List Frame} {meth : Method} {c : Code} {G : GG} {Y : LY} {res : HS × Int32} (X : Cx p R s m args meth c RX9 cX9_goOnInParallel 6 4 98 (fun q => q ∈ Y.1) G (some .int)) : ∀ (n : Nat) (S : HS) (l0 : Option Nat) (l1 : Option Nat) (l3 : Int32) (l4 : Int32) (l5 : Option Nat), fX9_goOnInParallel_53 Y n S l0 l1 l3 l4 l5 = some res → ∀ (H : Heap) (locs : List Loc) (ls : Array Slot), HP (fun q => q ∈ Y.1) G Y s S H locs → LV ls 6 [(0, va_rf l0), (1, va_rf l1), (3, .int l3), (4, .int l4), (5, va_rf l5)] → W p l e R s m args below meth c H locs 0 0 (MQ below (QI G Y res.1 (some (.int res.2))) args s 0 0 (fun q => q ∈ Y.1)) (F0 m 53 ls []) := by
  have hx := X.1.1
  have hb := X.1.2.1
  intro n
  induction n with
  | zero =>
    intro S l0 l1 l3 l4 l5 hf
    cases hf
  | succ n ih =>
    intro S l0 l1 l3 l4 l5 hf H locs ls hP hl
    rw [fX9_goOnInParallel_53] at hf
    refine rw_aload X dX9_goOnInParallel_53 (hl.at 4 rfl) ?_
    refine rw_ifnull X (tgt := 110) dX9_goOnInParallel_55 (by decide) (fun c55 => ?_) (fun c55 => ?_)
    · have hf := ifp hf c55
      refine lv_iload_n hx hb dX9_goOnInParallel_110 rfl (hl.at 2 rfl) ?_
      refine rw_aload_n X dX9_goOnInParallel_111 rfl (hl.at 1 rfl) ?_
      obtain ⟨v112, e112, hf⟩ := ob hf
      refine rw_getI X dX9_goOnInParallel_112 fl9_147 e112 rfl hP ?_
      refine lv_icmp_ge hx hb (tgt := 134) dX9_goOnInParallel_115 (by decide) (fun c115 => ?_) (fun c115 => ?_)
      · have hf := ifp hf c115
        exact wX9_goOnInParallel_134 X S l0 l1 l3 hf _ _ _ hP (hl.sub [0, 1, 2] rfl)
      · have hf := ifn hf c115
        refine lv_iload hx hb dX9_goOnInParallel_118 (hl.at 3 rfl) ?_
        refine rw_aload_n X dX9_goOnInParallel_120 rfl (hl.at 1 rfl) ?_
        obtain ⟨v121, e121, hf⟩ := ob hf
        refine rw_getI X dX9_goOnInParallel_121 fl9_178 e121 rfl hP ?_
        refine rw_aload_n X dX9_goOnInParallel_124 rfl (hl.at 1 rfl) ?_
        obtain ⟨v125, e125, hf⟩ := ob hf
        refine rw_getI X dX9_goOnInParallel_125 fl9_147 e125 rfl hP ?_
        refine lv_isub hx hb dX9_goOnInParallel_128 ?_
        refine lv_icmp_gt hx hb (tgt := 134) dX9_goOnInParallel_129 (by decide) (fun c129 => ?_) (fun c129 => ?_)
        · have hf := ifp hf c129
          exact wX9_goOnInParallel_134 X S l0 l1 l3 hf _ _ _ hP (hl.sub [0, 1, 2] rfl)
        · have hf := ifn hf c129
          refine lv_iconst (v := 1) hx hb dX9_goOnInParallel_132 (by decide) ?_
          cases hf
          exact rw_iret X dX9_goOnInParallel_133 hP
    · have hf := ifn hf c55
      refine lv_iload_n hx hb dX9_goOnInParallel_58 rfl (hl.at 2 rfl) ?_
      refine rw_aload X dX9_goOnInParallel_59 (hl.at 4 rfl) ?_
      obtain ⟨v61, e61, hf⟩ := ob hf
      refine rw_getR X dX9_goOnInParallel_61 fl9_60 e61 rfl hP ?_
      obtain ⟨v64, e64, hf⟩ := ob hf
      refine rw_getI X dX9_goOnInParallel_64 fl9_156 e64 rfl hP ?_
      refine lv_iconst (v := 2) hx hb dX9_goOnInParallel_67 (by decide) ?_
      refine lv_icmp_ne hx hb (tgt := 75) dX9_goOnInParallel_68 (by decide) (fun c68 => ?_) (fun c68 => ?_)
      · have hf := ifn hf c68
        refine lv_iconst (v := 0) hx hb dX9_goOnInParallel_75 (by decide) ?_
        exact wX9_goOnInParallel_76 X ih S l0 l1 l4 l5 l3 0 hf _ _ _ hP (hl.sub [0, 1, 3, 4] rfl)
      · have hf := ifp hf c68
        refine lv_iconst (v := 1) hx hb dX9_goOnInParallel_71 (by decide) ?_
        refine lv_goto (tgt := 76) hx hb dX9_goOnInParallel_72 (by decide) ?_
        exact wX9_goOnInParallel_76 X ih S l0 l1 l4 l5 l3 1 hf _ _ _ hP (hl.sub [0, 1, 3, 4] rfl)
def fX9_goOnInParallel_2 (Y : LY) : Nat → HS → Option Nat → Option Nat → Option Nat → Option (HS × Int32)
  | 0, _, _, _, _ => none
  | n + 1, S, l0, l1, l3 =>
    if l3 = none then
      (gR Y 4 410 l1 S).bind fun v48 =>
      fX9_goOnInParallel_53 Y FU S l0 l1 0 0 v48
    else
      (gR Y 4 403 l3 S).bind fun v7 =>
      (gI Y 3 303 v7 S).bind fun v10 =>
      if v10 = 2 then
        (gR Y 4 412 l3 S).bind fun v35 =>
        fX9_goOnInParallel_2 Y n S l0 l1 v35
      else
        (gR Y 4 403 l3 S).bind fun v18 =>
        (gI Y 3 303 v18 S).bind fun v21 =>
        if v21 = 3 then
          (gR Y 4 412 l3 S).bind fun v35 =>
          fX9_goOnInParallel_2 Y n S l0 l1 v35
        else
          (rcv Y 9 l0).bind fun _ =>
          (fX9_goDown Y S l0 l3).bind fun q30 =>
          some (q30.1, q30.2)
set_option maxRecDepth 100000 in
set_option maxHeartbeats 4000000 in
theorem wX9_goOnInParallel_2 {p : Program} {l : Launch} {e : Env} {R : Room} {s : State} {m : MethodId} {args : Array Value} {below : List Frame} {meth : Method} {c : Code} {G : GG} {Y : LY} {res : HS × Int32} (X : Cx p R s m args meth c RX9 cX9_goOnInParallel 6 4 98 (fun q => q ∈ Y.1) G (some .int)) : ∀ (n : Nat) (S : HS) (l0 : Option Nat) (l1 : Option Nat) (l3 : Option Nat), fX9_goOnInParallel_2 Y n S l0 l1 l3 = some res → ∀ (H : Heap) (locs : List Loc) (ls : Array Slot), HP (fun q => q ∈ Y.1) G Y s S H locs → LV ls 6 [(0, va_rf l0), (1, va_rf l1), (3, va_rf l3)] → W p l e R s m args below meth c H locs 0 0 (MQ below (QI G Y res.1 (some (.int res.2))) args s 0 0 (fun q => q ∈ Y.1)) (F0 m 2 ls []) := by
  have hx := X.1.1
  have hb := X.1.2.1
  intro n
  induction n with
  | zero =>
    intro S l0 l1 l3 hf
    cases hf
  | succ n ih =>
    intro S l0 l1 l3 hf H locs ls hP hl
    rw [fX9_goOnInParallel_2] at hf
    refine rw_aload_n X dX9_goOnInParallel_2 rfl (hl.at 2 rfl) ?_
    refine rw_ifnull X (tgt := 42) dX9_goOnInParallel_3 (by decide) (fun c3 => ?_) (fun c3 => ?_)
    · have hf := ifp hf c3
      refine lv_iconst (v := 0) hx hb dX9_goOnInParallel_42 (by decide) ?_
      refine rv_istore_n X dX9_goOnInParallel_43 rfl hl (by decide) rfl (fun ls hl => ?_)
      have hl : LV ls 6 [(3, .int 0), (0, va_rf l0), (1, va_rf l1)] := hl
      refine lv_iconst (v := 0) hx hb dX9_goOnInParallel_44 (by decide) ?_
      refine rv_istore X dX9_goOnInParallel_45 hl (by decide) rfl (fun ls hl => ?_)
      have hl : LV ls 6 [(4, .int 0), (3, .int 0), (0, va_rf l0), (1, va_rf l1)] := hl
      refine rw_aload_n X dX9_goOnInParallel_47 rfl (hl.at 3 rfl) ?_
      obtain ⟨v48, e48, hf⟩ := ob hf
      refine rw_getR X dX9_goOnInParallel_48 fl9_133 e48 rfl hP ?_
      refine rv_astore X dX9_goOnInParallel_51 hl (by decide) rfl (fun ls hl => ?_)
      have hl : LV ls 6 [(5, va_rf v48), (4, .int 0), (3, .int 0), (0, va_rf l0), (1, va_rf l1)] := hl
      exact wX9_goOnInParallel_53 X FU S l0 l1 0 0 v48 hf _ _ _ hP (hl.sub [3, 4, 2, 1, 0] rfl)
    · have hf := ifn hf c3
      refine rw_aload_n X dX9_goOnInParallel_6 rfl (hl.at 2 rfl) ?_
      obtain ⟨v7, e7, hf⟩ := ob hf
      refine rw_getR X dX9_goOnInParallel_7 fl9_60 e7 rfl hP ?_
      obtain ⟨v10, e10, hf⟩ := ob hf
      refine rw_getI X dX9_goOnInParallel_10 fl9_156 e10 rfl hP ?_
      refine lv_iconst (v := 2) hx hb dX9_goOnInParallel_13 (by decide) ?_
      refine lv_icmp_eq hx hb (tgt := 34) dX9_goOnInParallel_14 (by decide) (fun c14 => ?_) (fun c14 => ?_)
      · have hf := ifp hf c14
        refine rw_aload_n X dX9_goOnInParallel_34 rfl (hl.at 2 rfl) ?_
        obtain ⟨v35, e35, hf⟩ := ob hf
        refine rw_getR X dX9_goOnInParallel_35 fl9_159 e35 rfl hP ?_
        refine rv_astore_n X dX9_goOnInParallel_38 rfl hl (by decide) rfl (fun ls hl => ?_)
        have hl : LV ls 6 [(3, va_rf v35), (0, va_rf l0), (1, va_rf l1)] := hl
        refine lv_goto (tgt := 2) hx hb dX9_goOnInParallel_39 (by decide) ?_
        exact ih S l0 l1 v35 hf _ _ _ hP (hl.sub [1, 2, 0] rfl)
      · have hf := ifn hf c14
        refine rw_aload_n X dX9_goOnInParallel_17 rfl (hl.at 2 rfl) ?_
        obtain ⟨v18, e18, hf⟩ := ob hf
        refine rw_getR X dX9_goOnInParallel_18 fl9_60 e18 rfl hP ?_
        obtain ⟨v21, e21, hf⟩ := ob hf
        refine rw_getI X dX9_goOnInParallel_21 fl9_156 e21 rfl hP ?_
        refine lv_iconst (v := 3) hx hb dX9_goOnInParallel_24 (by decide) ?_
        refine lv_icmp_eq hx hb (tgt := 34) dX9_goOnInParallel_25 (by decide) (fun c25 => ?_) (fun c25 => ?_)
        · have hf := ifp hf c25
          refine rw_aload_n X dX9_goOnInParallel_34 rfl (hl.at 2 rfl) ?_
          obtain ⟨v35, e35, hf⟩ := ob hf
          refine rw_getR X dX9_goOnInParallel_35 fl9_159 e35 rfl hP ?_
          refine rv_astore_n X dX9_goOnInParallel_38 rfl hl (by decide) rfl (fun ls hl => ?_)
          have hl : LV ls 6 [(3, va_rf v35), (0, va_rf l0), (1, va_rf l1)] := hl
          refine lv_goto (tgt := 2) hx hb dX9_goOnInParallel_39 (by decide) ?_
          exact ih S l0 l1 v35 hf _ _ _ hP (hl.sub [1, 2, 0] rfl)
        · have hf := ifn hf c25
          refine rw_aload_n X dX9_goOnInParallel_28 rfl (hl.at 0 rfl) ?_
          refine rw_aload_n X dX9_goOnInParallel_29 rfl (hl.at 2 rfl) ?_
          obtain ⟨u30, r30, hf⟩ := ob hf
          obtain ⟨q30, e30, hf⟩ := ob hf
          refine rw_callVi (As := [va_rf l3]) X dX9_goOnInParallel_30 clX9_130 pyX9_goDown (mX9_goDown l e30) (by decide) r30 rfl hP rfl (catL c1n (Nat.le_of_ble_eq_true rfl)) hl.1.1 (fun H locs hP => ?_)
          cases hf
          exact rw_iret X dX9_goOnInParallel_33 hP
def fX9_goOnInParallel (Y : LY) (S : HS) (l0 : Option Nat) (l1 : Option Nat) (l2 : Option Nat) : Option (HS × Int32) :=
  fX9_goOnInParallel_2 Y FU S l0 l1 l2
set_option maxRecDepth 100000 in
set_option maxHeartbeats 4000000 in
theorem mX9_goOnInParallel (l : Launch) {G : GG} {Y : LY} {S : HS} {l0 : Option Nat} {l1 : Option Nat} {l2 : Option Nat} {res : HS × Int32} (hf : fX9_goOnInParallel Y S l0 l1 l2 = some res) : MM l yX9_goOnInParallel cX9_goOnInParallel 6 (some .int) 4 98 G Y S [va_rf l0, va_rf l1, va_rf l2] res.1 (some (.int res.2)) := by
  refine mm_of2 (plainFor_of_name (by decide +kernel)) (Nat.le_of_ble_eq_true rfl) (c1c (cr _) (c1c (cr _) (c1c (cr _) c1n))) ?_
  intro p e R s m args below meth c X H locs ls hP hl
  have X : Cx p R s m args meth c RX9 cX9_goOnInParallel 6 4 98 (fun q => q ∈ Y.1) G (some .int) := X
  have hx := X.1.1
  have hb := X.1.2.1
  have hl : LV ls 6 [(0, va_rf l0), (1, va_rf l1), (2, va_rf l2)] := hl
  unfold fX9_goOnInParallel at hf
  refine rw_aload_n X dX9_goOnInParallel_0 rfl (hl.at 2 rfl) ?_
  refine rv_astore_n X dX9_goOnInParallel_1 rfl hl (by decide) rfl (fun ls hl => ?_)
  have hl : LV ls 6 [(3, va_rf l2), (0, va_rf l0), (1, va_rf l1), (2, va_rf l2)] := hl
  exact wX9_goOnInParallel_2 X FU S l0 l1 l2 hf _ _ _ hP (hl.sub [1, 2, 0] rfl)
theorem dX9_goDownIf_0 : decode cX9_goDownIf 0 = .ok (.iload_n 1, 1) := by decide +kernel
theorem dX9_goDownIf_1 : decode cX9_goDownIf 1 = .ok (.ifCond .eq 12, 3) := by decide +kernel
theorem dX9_goDownIf_4 : decode cX9_goDownIf 4 = .ok (.aload_n 0, 1) := by decide +kernel
theorem dX9_goDownIf_5 : decode cX9_goDownIf 5 = .ok (.aload_n 2, 1) := by decide +kernel
theorem dX9_goDownIf_6 : decode cX9_goDownIf 6 = .ok (.getfield 133, 3) := by decide +kernel
theorem dX9_goDownIf_9 : decode cX9_goDownIf 9 = .ok (.invokevirtual 130, 3) := by decide +kernel
theorem dX9_goDownIf_12 : decode cX9_goDownIf 12 = .ok (.ireturn, 1) := by decide +kernel
theorem dX9_goDownIf_13 : decode cX9_goDownIf 13 = .ok (.aload_n 0, 1) := by decide +kernel
theorem dX9_goDownIf_14 : decode cX9_goDownIf 14 = .ok (.aload_n 2, 1) := by decide +kernel
theorem dX9_goDownIf_15 : decode cX9_goDownIf 15 = .ok (.aload_n 2, 1) := by decide +kernel
theorem dX9_goDownIf_16 : decode cX9_goDownIf 16 = .ok (.getfield 133, 3) := by decide +kernel
theorem dX9_goDownIf_19 : decode cX9_goDownIf 19 = .ok (.invokevirtual 162, 3) := by decide +kernel
theorem dX9_goDownIf_22 : decode cX9_goDownIf 22 = .ok (.iconst 3, 1) := by decide +kernel
theorem dX9_goDownIf_23 : decode cX9_goDownIf 23 = .ok (.ireturn, 1) := by decide +kernel
theorem pyX9_goDownIf : PY yX9_goDownIf 2 := ⟨by decide +kernel, by decide +kernel, by decide +kernel⟩
def fX9_goDownIf (Y : LY) (S : HS) (l0 : Option Nat) (l1 : Int32) (l2 : Option Nat) : Option (HS × Int32) :=
  if l1 = 0 then
    (gR Y 4 410 l2 S).bind fun v16 =>
    (rcv Y 9 l0).bind fun _ =>
    (fX9_stopBack Y S l0 l2 v16).bind fun S19 =>
    some (S19, 3)
  else
    (gR Y 4 410 l2 S).bind fun v6 =>
    (rcv Y 9 l0).bind fun _ =>
    (fX9_goDown Y S l0 v6).bind fun q9 =>
    some (q9.1, q9.2)
set_option maxRecDepth 100000 in
set_option maxHeartbeats 4000000 in
theorem mX9_goDownIf (l : Launch) {G : GG} {Y : LY} {S : HS} {l0 : Option Nat} {l1 : Int32} {l2 : Option Nat} {res : HS × Int32} (hf : fX9_goDownIf Y S l0 l1 l2 = some res) : MM l yX9_goDownIf cX9_goDownIf 3 (some .int) 4 98 G Y S [va_rf l0, .int l1, va_rf l2] res.1 (some (.int res.2)) := by
  refine mm_of2 (plainFor_of_name (by decide +kernel)) (Nat.le_of_ble_eq_true rfl) (c1c (cr _) (c1c (ci _) (c1c (cr _) c1n))) ?_
  intro p e R s m args below meth c X H locs ls hP hl
  have X : Cx p R s m args meth c RX9 cX9_goDownIf 3 4 98 (fun q => q ∈ Y.1) G (some .int) := X
  have hx := X.1.1
  have hb := X.1.2.1
  have hl : LV ls 3 [(0, va_rf l0), (1, .int l1), (2, va_rf l2)] := hl
  unfold fX9_goDownIf at hf
  refine lv_iload_n hx hb dX9_goDownIf_0 rfl (hl.at 1 rfl) ?_
  refine lv_if_eq hx hb (tgt := 13) dX9_goDownIf_1 (by decide) (fun c1 => ?_) (fun c1 => ?_)
  · have hf := ifp hf c1
    refine rw_aload_n X dX9_goDownIf_13 rfl (hl.at 0 rfl) ?_
    refine rw_aload_n X dX9_goDownIf_14 rfl (hl.at 2 rfl) ?_
    refine rw_aload_n X dX9_goDownIf_15 rfl (hl.at 2 rfl) ?_
    obtain ⟨v16, e16, hf⟩ := ob hf
    refine rw_getR X dX9_goDownIf_16 fl9_133 e16 rfl hP ?_
    obtain ⟨u19, r19, hf⟩ := ob hf
    obtain ⟨S19, e19, hf⟩ := ob hf
    refine rw_callVv (As := [va_rf l2, va_rf v16]) X dX9_goDownIf_19 clX9_162 pyX9_stopBack (mX9_stopBack l e19) (by decide) r19 rfl hP rfl (catL c1n (Nat.le_of_ble_eq_true rfl)) hl.1.1 (fun H locs hP => ?_)
    refine lv_iconst (v := 3) hx hb dX9_goDownIf_22 (by decide) ?_
    cases hf
    exact rw_iret X dX9_goDownIf_23 hP
  · have hf := ifn hf c1
    refine rw_aload_n X dX9_goDownIf_4 rfl (hl.at 0 rfl) ?_
    refine rw_aload_n X dX9_goDownIf_5 rfl (hl.at 2 rfl) ?_
    obtain ⟨v6, e6, hf⟩ := ob hf
    refine rw_getR X dX9_goDownIf_6 fl9_133 e6 rfl hP ?_
    obtain ⟨u9, r9, hf⟩ := ob hf
    obtain ⟨q9, e9, hf⟩ := ob hf
    refine rw_callVi (As := [va_rf v6]) X dX9_goDownIf_9 clX9_130 pyX9_goDown (mX9_goDown l e9) (by decide) r9 rfl hP rfl (catL c1n (Nat.le_of_ble_eq_true rfl)) hl.1.1 (fun H locs hP => ?_)
    cases hf
    exact rw_iret X dX9_goDownIf_12 hP
theorem dX9_beginVisit_0 : decode cX9_beginVisit 0 = .ok (.aload_n 1, 1) := by decide +kernel
theorem dX9_beginVisit_1 : decode cX9_beginVisit 1 = .ok (.getfield 60, 3) := by decide +kernel
theorem dX9_beginVisit_4 : decode cX9_beginVisit 4 = .ok (.astore_n 2, 1) := by decide +kernel
theorem dX9_beginVisit_5 : decode cX9_beginVisit 5 = .ok (.aload_n 2, 1) := by decide +kernel
theorem dX9_beginVisit_6 : decode cX9_beginVisit 6 = .ok (.dup, 1) := by decide +kernel
theorem dX9_beginVisit_7 : decode cX9_beginVisit 7 = .ok (.getfield 105, 3) := by decide +kernel
theorem dX9_beginVisit_10 : decode cX9_beginVisit 10 = .ok (.iconst 1, 1) := by decide +kernel
theorem dX9_beginVisit_11 : decode cX9_beginVisit 11 = .ok (.iadd, 1) := by decide +kernel
theorem dX9_beginVisit_12 : decode cX9_beginVisit 12 = .ok (.putfield 105, 3) := by decide +kernel
theorem dX9_beginVisit_15 : decode cX9_beginVisit 15 = .ok (.aload_n 0, 1) := by decide +kernel
theorem dX9_beginVisit_16 : decode cX9_beginVisit 16 = .ok (.getfield 21, 3) := by decide +kernel
theorem dX9_beginVisit_19 : decode cX9_beginVisit 19 = .ok (.dup, 1) := by decide +kernel
theorem dX9_beginVisit_20 : decode cX9_beginVisit 20 = .ok (.getfield 108, 3) := by decide +kernel
theorem dX9_beginVisit_23 : decode cX9_beginVisit 23 = .ok (.iconst 1, 1) := by decide +kernel
theorem dX9_beginVisit_24 : decode cX9_beginVisit 24 = .ok (.iadd, 1) := by decide +kernel
theorem dX9_beginVisit_25 : decode cX9_beginVisit 25 = .ok (.putfield 108, 3) := by decide +kernel
theorem dX9_beginVisit_28 : decode cX9_beginVisit 28 = .ok (.aload_n 2, 1) := by decide +kernel
theorem dX9_beginVisit_29 : decode cX9_beginVisit 29 = .ok (.getfield 64, 3) := by decide +kernel
theorem dX9_beginVisit_32 : decode cX9_beginVisit 32 = .ok (.ifCond .ne 8, 3) := by decide +kernel
theorem dX9_beginVisit_35 : decode cX9_beginVisit 35 = .ok (.aload_n 0, 1) := by decide +kernel
theorem dX9_beginVisit_36 : decode cX9_beginVisit 36 = .ok (.aload_n 1, 1) := by decide +kernel
theorem dX9_beginVisit_37 : decode cX9_beginVisit 37 = .ok (.invokevirtual 109, 3) := by decide +kernel
theorem dX9_beginVisit_40 : decode cX9_beginVisit 40 = .ok (.aload_n 1, 1) := by decide +kernel
theorem dX9_beginVisit_41 : decode cX9_beginVisit 41 = .ok (.getfield 113, 3) := by decide +kernel
theorem dX9_beginVisit_44 : decode cX9_beginVisit 44 = .ok (.tableswitch 187 0 13 #[72, 79, 86, 106, 119, 119, 187, 187, 128, 187, 187, 187, 138, 155], 72) := by decide +kernel
theorem dX9_beginVisit_116 : decode cX9_beginVisit 116 = .ok (.aload_n 0, 1) := by decide +kernel
theorem dX9_beginVisit_117 : decode cX9_beginVisit 117 = .ok (.aload_n 1, 1) := by decide +kernel
theorem dX9_beginVisit_118 : decode cX9_beginVisit 118 = .ok (.iconst 2, 1) := by decide +kernel
theorem dX9_beginVisit_119 : decode cX9_beginVisit 119 = .ok (.invokevirtual 116, 3) := by decide +kernel
theorem dX9_beginVisit_122 : decode cX9_beginVisit 122 = .ok (.ireturn, 1) := by decide +kernel
theorem dX9_beginVisit_123 : decode cX9_beginVisit 123 = .ok (.aload_n 0, 1) := by decide +kernel
theorem dX9_beginVisit_124 : decode cX9_beginVisit 124 = .ok (.aload_n 1, 1) := by decide +kernel
theorem dX9_beginVisit_125 : decode cX9_beginVisit 125 = .ok (.iconst 3, 1) := by decide +kernel
theorem dX9_beginVisit_126 : decode cX9_beginVisit 126 = .ok (.invokevirtual 116, 3) := by decide +kernel
theorem dX9_beginVisit_129 : decode cX9_beginVisit 129 = .ok (.ireturn, 1) := by decide +kernel
theorem dX9_beginVisit_130 : decode cX9_beginVisit 130 = .ok (.aload_n 0, 1) := by decide +kernel
theorem dX9_beginVisit_131 : decode cX9_beginVisit 131 = .ok (.getfield 12, 3) := by decide +kernel
theorem dX9_beginVisit_134 : decode cX9_beginVisit 134 = .ok (.aload_n 1, 1) := by decide +kernel
theorem dX9_beginVisit_135 : decode cX9_beginVisit 135 = .ok (.getfield 120, 3) := by decide +kernel
theorem dX9_beginVisit_138 : decode cX9_beginVisit 138 = .ok (.invokevirtual 123, 3) := by decide +kernel
theorem dX9_beginVisit_141 : decode cX9_beginVisit 141 = .ok (.ifCond .eq 7, 3) := by decide +kernel
theorem dX9_beginVisit_144 : decode cX9_beginVisit 144 = .ok (.iconst 2, 1) := by decide +kernel
theorem dX9_beginVisit_145 : decode cX9_beginVisit 145 = .ok (.goto 4, 3) := by decide +kernel
theorem dX9_beginVisit_148 : decode cX9_beginVisit 148 = .ok (.iconst 3, 1) := by decide +kernel
theorem dX9_beginVisit_149 : decode cX9_beginVisit 149 = .ok (.ireturn, 1) := by decide +kernel
theorem dX9_beginVisit_150 : decode cX9_beginVisit 150 = .ok (.aload_n 0, 1) := by decide +kernel
theorem dX9_beginVisit_151 : decode cX9_beginVisit 151 = .ok (.getfield 12, 3) := by decide +kernel
theorem dX9_beginVisit_154 : decode cX9_beginVisit 154 = .ok (.aload_n 1, 1) := by decide +kernel
theorem dX9_beginVisit_155 : decode cX9_beginVisit 155 = .ok (.getfield 120, 3) := by decide +kernel
theorem dX9_beginVisit_158 : decode cX9_beginVisit 158 = .ok (.invokevirtual 98, 3) := by decide +kernel
theorem dX9_beginVisit_161 : decode cX9_beginVisit 161 = .ok (.iconst 2, 1) := by decide +kernel
theorem dX9_beginVisit_162 : decode cX9_beginVisit 162 = .ok (.ireturn, 1) := by decide +kernel
theorem dX9_beginVisit_163 : decode cX9_beginVisit 163 = .ok (.aload_n 0, 1) := by decide +kernel
theorem dX9_beginVisit_164 : decode cX9_beginVisit 164 = .ok (.aload_n 2, 1) := by decide +kernel
theorem dX9_beginVisit_165 : decode cX9_beginVisit 165 = .ok (.getfield 127, 3) := by decide +kernel
theorem dX9_beginVisit_168 : decode cX9_beginVisit 168 = .ok (.invokevirtual 130, 3) := by decide +kernel
theorem dX9_beginVisit_171 : decode cX9_beginVisit 171 = .ok (.ireturn, 1) := by decide +kernel
theorem dX9_beginVisit_172 : decode cX9_beginVisit 172 = .ok (.aload_n 0, 1) := by decide +kernel
theorem dX9_beginVisit_173 : decode cX9_beginVisit 173 = .ok (.aload_n 1, 1) := by decide +kernel
theorem dX9_beginVisit_174 : decode cX9_beginVisit 174 = .ok (.aload_n 1, 1) := by decide +kernel
theorem dX9_beginVisit_175 : decode cX9_beginVisit 175 = .ok (.getfield 133, 3) := by decide +kernel
theorem dX9_beginVisit_178 : decode cX9_beginVisit 178 = .ok (.invokevirtual 136, 3) := by decide +kernel
theorem dX9_beginVisit_181 : decode cX9_beginVisit 181 = .ok (.ireturn, 1) := by decide +kernel
theorem dX9_beginVisit_182 : decode cX9_beginVisit 182 = .ok (.aload_n 0, 1) := by decide +kernel
theorem dX9_beginVisit_183 : decode cX9_beginVisit 183 = .ok (.aload_n 0, 1) := by decide +kernel
theorem dX9_beginVisit_184 : decode cX9_beginVisit 184 = .ok (.getfield 12, 3) := by decide +kernel
theorem dX9_beginVisit_187 : decode cX9_beginVisit 187 = .ok (.aload_n 1, 1) := by decide +kernel
theorem dX9_beginVisit_188 : decode cX9_beginVisit 188 = .ok (.getfield 120, 3) := by decide +kernel
theorem dX9_beginVisit_191 : decode cX9_beginVisit 191 = .ok (.invokevirtual 123, 3) := by decide +kernel
theorem dX9_beginVisit_194 : decode cX9_beginVisit 194 = .ok (.aload_n 1, 1) := by decide +kernel
theorem dX9_beginVisit_195 : decode cX9_beginVisit 195 = .ok (.invokevirtual 140, 3) := by decide +kernel
theorem dX9_beginVisit_198 : decode cX9_beginVisit 198 = .ok (.ireturn, 1) := by decide +kernel
theorem dX9_beginVisit_199 : decode cX9_beginVisit 199 = .ok (.aload_n 2, 1) := by decide +kernel
theorem dX9_beginVisit_200 : decode cX9_beginVisit 200 = .ok (.dup, 1) := by decide +kernel
theorem dX9_beginVisit_201 : decode cX9_beginVisit 201 = .ok (.getfield 144, 3) := by decide +kernel
theorem dX9_beginVisit_204 : decode cX9_beginVisit 204 = .ok (.iconst 1, 1) := by decide +kernel
theorem dX9_beginVisit_205 : decode cX9_beginVisit 205 = .ok (.iadd, 1) := by decide +kernel
theorem dX9_beginVisit_206 : decode cX9_beginVisit 206 = .ok (.putfield 144, 3) := by decide +kernel
theorem dX9_beginVisit_209 : decode cX9_beginVisit 209 = .ok (.aload_n 0, 1) := by decide +kernel
theorem dX9_beginVisit_210 : decode cX9_beginVisit 210 = .ok (.aload_n 2, 1) := by decide +kernel
theorem dX9_beginVisit_211 : decode cX9_beginVisit 211 = .ok (.getfield 144, 3) := by decide +kernel
theorem dX9_beginVisit_214 : decode cX9_beginVisit 214 = .ok (.aload_n 1, 1) := by decide +kernel
theorem dX9_beginVisit_215 : decode cX9_beginVisit 215 = .ok (.getfield 147, 3) := by decide +kernel
theorem dX9_beginVisit_218 : decode cX9_beginVisit 218 = .ok (.if_icmp .gt 7, 3) := by decide +kernel
theorem dX9_beginVisit_221 : decode cX9_beginVisit 221 = .ok (.iconst 1, 1) := by decide +kernel
theorem dX9_beginVisit_222 : decode cX9_beginVisit 222 = .ok (.goto 4, 3) := by decide +kernel
theorem dX9_beginVisit_225 : decode cX9_beginVisit 225 = .ok (.iconst 0, 1) := by decide +kernel
theorem dX9_beginVisit_226 : decode cX9_beginVisit 226 = .ok (.aload_n 1, 1) := by decide +kernel
theorem dX9_beginVisit_227 : decode cX9_beginVisit 227 = .ok (.invokevirtual 140, 3) := by decide +kernel
theorem dX9_beginVisit_230 : decode cX9_beginVisit 230 = .ok (.ireturn, 1) := by decide +kernel
theorem dX9_beginVisit_231 : decode cX9_beginVisit 231 = .ok (.aload_n 0, 1) := by decide +kernel
theorem dX9_beginVisit_232 : decode cX9_beginVisit 232 = .ok (.aload_n 1, 1) := by decide +kernel
theorem dX9_beginVisit_233 : decode cX9_beginVisit 233 = .ok (.getfield 133, 3) := by decide +kernel
theorem dX9_beginVisit_236 : decode cX9_beginVisit 236 = .ok (.invokevirtual 130, 3) := by decide +kernel
theorem dX9_beginVisit_239 : decode cX9_beginVisit 239 = .ok (.ireturn, 1) := by decide +kernel
theorem pyX9_beginVisit : PY yX9_beginVisit 1 := ⟨by decide +kernel, by decide +kernel, by decide +kernel⟩
def fX9_beginVisit_40 (Y : LY) (S : HS) (l0 : Option Nat) (l1 : Option Nat) (l2 : Option Nat) : Option (HS × Int32) :=
  (gI Y 4 404 l1 S).bind fun v41 =>
  if v41 = 0 then
    (rcv Y 9 l0).bind fun _ =>
    (fX9_act Y S l0 l1 2).bind fun q119 =>
    some (q119.1, q119.2)
  else
  if v41 = 1 then
    (rcv Y 9 l0).bind fun _ =>
    (fX9_act Y S l0 l1 3).bind fun q126 =>
    some (q126.1, q126.2)
  else
  if v41 = 2 then
    (gR Y 9 900 l0 S).bind fun v131 =>
    (gR Y 4 401 l1 S).bind fun v135 =>
    (rcv Y 0 v131).bind fun _ =>
    (fX0_fulfils Y S v131 v135).bind fun v138 =>
    if v138 = 0 then
      some (S, 3)
    else
      some (S, 2)
  else
  if v41 = 3 then
    (gR Y 9 900 l0 S).bind fun v151 =>
    (gR Y 4 401 l1 S).bind fun v155 =>
    (rcv Y 0 v151).bind fun _ =>
    (fX0_change Y S v151 v155).bind fun S158 =>
    some (S158, 2)
  else
  if v41 = 4 then
    (gR Y 3 302 l2 S).bind fun v165 =>
    (rcv Y 9 l0).bind fun _ =>
    (fX9_goDown Y S l0 v165).bind fun q168 =>
    some (q168.1, q168.2)
  else
  if v41 = 5 then
    (gR Y 3 302 l2 S).bind fun v165 =>
    (rcv Y 9 l0).bind fun _ =>
    (fX9_goDown Y S l0 v165).bind fun q168 =>
    some (q168.1, q168.2)
  else
  if v41 = 6 then
    (gR Y 4 410 l1 S).bind fun v233 =>
    (rcv Y 9 l0).bind fun _ =>
    (fX9_goDown Y S l0 v233).bind fun q236 =>
    some (q236.1, q236.2)
  else
  if v41 = 7 then
    (gR Y 4 410 l1 S).bind fun v233 =>
    (rcv Y 9 l0).bind fun _ =>
    (fX9_goDown Y S l0 v233).bind fun q236 =>
    some (q236.1, q236.2)
  else
  if v41 = 8 then
    (gR Y 4 410 l1 S).bind fun v175 =>
    (rcv Y 9 l0).bind fun _ =>
    (fX9_goOnInParallel Y S l0 l1 v175).bind fun q178 =>
    some (q178.1, q178.2)
  else
  if v41 = 9 then
    (gR Y 4 410 l1 S).bind fun v233 =>
    (rcv Y 9 l0).bind fun _ =>
    (fX9_goDown Y S l0 v233).bind fun q236 =>
    some (q236.1, q236.2)
  else
  if v41 = 10 then
    (gR Y 4 410 l1 S).bind fun v233 =>
    (rcv Y 9 l0).bind fun _ =>
    (fX9_goDown Y S l0 v233).bind fun q236 =>
    some (q236.1, q236.2)
  else
  if v41 = 11 then
    (gR Y 4 410 l1 S).bind fun v233 =>
    (rcv Y 9 l0).bind fun _ =>
    (fX9_goDown Y S l0 v233).bind fun q236 =>
    some (q236.1, q236.2)
  else
  if v41 = 12 then
    (gR Y 9 900 l0 S).bind fun v184 =>
    (gR Y 4 401 l1 S).bind fun v188 =>
    (rcv Y 0 v184).bind fun _ =>
    (fX0_fulfils Y S v184 v188).bind fun v191 =>
    (rcv Y 9 l0).bind fun _ =>
    (fX9_goDownIf Y S l0 v191 l1).bind fun q195 =>
    some (q195.1, q195.2)
  else
  if v41 = 13 then
    (gI Y 3 301 l2 S).bind fun v201 =>
    (pI Y 3 301 l2 (v201 + 1) S).bind fun S206 =>
    (gI Y 3 301 l2 S206).bind fun v211 =>
    (gI Y 4 405 l1 S206).bind fun v215 =>
    if v215 < v211 then
      (rcv Y 9 l0).bind fun _ =>
      (fX9_goDownIf Y S206 l0 0 l1).bind fun q227 =>
      some (q227.1, q227.2)
    else
      (rcv Y 9 l0).bind fun _ =>
      (fX9_goDownIf Y S206 l0 1 l1).bind fun q227 =>
      some (q227.1, q227.2)
  else
  (gR Y 4 410 l1 S).bind fun v233 =>
  (rcv Y 9 l0).bind fun _ =>
  (fX9_goDown Y S l0 v233).bind fun q236 =>
  some (q236.1, q236.2)
set_option maxRecDepth 100000 in
set_option maxHeartbeats 4000000 in
theorem wX9_beginVisit_40 {p : Program} {l : Launch} {e : Env} {R : Room} {s : State} {m : MethodId} {args : Array Value} {below : List Frame} {meth : Method} {c : Code} {G : GG} {Y : LY} {res : HS × Int32} (X : Cx p R s m args meth c RX9 cX9_beginVisit 3 5 123 (fun q => q ∈ Y.1) G (some .int)) : ∀ (S : HS) (l0 : Option Nat) (l1 : Option Nat) (l2 : Option Nat), fX9_beginVisit_40 Y S l0 l1 l2 = some res → ∀ (H : Heap) (locs : List Loc) (ls : Array Slot), HP (fun q => q ∈ Y.1) G Y s S H locs → LV ls 3 [(0, va_rf l0), (1, va_rf l1), (2, va_rf l2)] → W p l e R s m args below meth c H locs 0 0 (MQ below (QI G Y res.1 (some (.int res.2))) args s 0 0 (fun q => q ∈ Y.1)) (F0 m 40 ls []) := by
  have hx := X.1.1
  have hb := X.1.2.1
  intro S l0 l1 l2 hf H locs ls hP hl
  unfold fX9_beginVisit_40 at hf
  refine rw_aload_n X dX9_beginVisit_40 rfl (hl.at 1 rfl) ?_
  obtain ⟨v41, e41, hf⟩ := ob hf
  refine rw_getI X dX9_beginVisit_41 fl9_113 e41 rfl hP ?_
  by_cases c44_0 : v41 = 0
  · have hf := ifp hf c44_0
    refine lv_tableIn (tgt := 116) hx hb dX9_beginVisit_44 (by rw [c44_0]; decide) (by rw [c44_0]; decide) (by rw [c44_0]; rfl) (by decide) ?_
    refine rw_aload_n X dX9_beginVisit_116 rfl (hl.at 0 rfl) ?_
    refine rw_aload_n X dX9_beginVisit_117 rfl (hl.at 1 rfl) ?_
    refine lv_iconst (v := 2) hx hb dX9_beginVisit_118 (by decide) ?_
    obtain ⟨u119, r119, hf⟩ := ob hf
    obtain ⟨q119, e119, hf⟩ := ob hf
    refine rw_callVi (As := [va_rf l1, .int 2]) X dX9_beginVisit_119 clX9_116 pyX9_act (mX9_act l e119) (by decide) r119 rfl hP rfl (catL c1n (Nat.le_of_ble_eq_true rfl)) hl.1.1 (fun H locs hP => ?_)
    cases hf
    exact rw_iret X dX9_beginVisit_122 hP
  have hf := ifn hf c44_0
  by_cases c44_1 : v41 = 1
  · have hf := ifp hf c44_1
    refine lv_tableIn (tgt := 123) hx hb dX9_beginVisit_44 (by rw [c44_1]; decide) (by rw [c44_1]; decide) (by rw [c44_1]; rfl) (by decide) ?_
    refine rw_aload_n X dX9_beginVisit_123 rfl (hl.at 0 rfl) ?_
    refine rw_aload_n X dX9_beginVisit_124 rfl (hl.at 1 rfl) ?_
    refine lv_iconst (v := 3) hx hb dX9_beginVisit_125 (by decide) ?_
    obtain ⟨u126, r126, hf⟩ := ob hf
    obtain ⟨q126, e126, hf⟩ := ob hf
    refine rw_callVi (As := [va_rf l1, .int 3]) X dX9_beginVisit_126 clX9_116 pyX9_act (mX9_act l e126) (by decide) r126 rfl hP rfl (catL c1n (Nat.le_of_ble_eq_true rfl)) hl.1.1 (fun H locs hP => ?_)
    cases hf
    exact rw_iret X dX9_beginVisit_129 hP
  have hf := ifn hf c44_1
  by_cases c44_2 : v41 = 2
  · have hf := ifp hf c44_2
    refine lv_tableIn (tgt := 130) hx hb dX9_beginVisit_44 (by rw [c44_2]; decide) (by rw [c44_2]; decide) (by rw [c44_2]; rfl) (by decide) ?_
    refine rw_aload_n X dX9_beginVisit_130 rfl (hl.at 0 rfl) ?_
    obtain ⟨v131, e131, hf⟩ := ob hf
    refine rw_getR X dX9_beginVisit_131 fl9_12 e131 rfl hP ?_
    refine rw_aload_n X dX9_beginVisit_134 rfl (hl.at 1 rfl) ?_
    obtain ⟨v135, e135, hf⟩ := ob hf
    refine rw_getR X dX9_beginVisit_135 fl9_120 e135 rfl hP ?_
    obtain ⟨u138, r138, hf⟩ := ob hf
    obtain ⟨v138, e138, hf⟩ := ob hf
    refine rw_callVi (As := [va_rf v135]) X dX9_beginVisit_138 clX9_123 pyX0_fulfils (mX0_fulfils l e138) (by decide) r138 rfl hP rfl (catL c1n (Nat.le_of_ble_eq_true rfl)) hl.1.1 (fun H locs hP => ?_)
    refine lv_if_eq hx hb (tgt := 148) dX9_beginVisit_141 (by decide) (fun c141 => ?_) (fun c141 => ?_)
    · have hf := ifp hf c141
      refine lv_iconst (v := 3) hx hb dX9_beginVisit_148 (by decide) ?_
      cases hf
      exact rw_iret X dX9_beginVisit_149 hP
    · have hf := ifn hf c141
      refine lv_iconst (v := 2) hx hb dX9_beginVisit_144 (by decide) ?_
      refine lv_goto (tgt := 149) hx hb dX9_beginVisit_145 (by decide) ?_
      cases hf
      exact rw_iret X dX9_beginVisit_149 hP
  have hf := ifn hf c44_2
  by_cases c44_3 : v41 = 3
  · have hf := ifp hf c44_3
    refine lv_tableIn (tgt := 150) hx hb dX9_beginVisit_44 (by rw [c44_3]; decide) (by rw [c44_3]; decide) (by rw [c44_3]; rfl) (by decide) ?_
    refine rw_aload_n X dX9_beginVisit_150 rfl (hl.at 0 rfl) ?_
    obtain ⟨v151, e151, hf⟩ := ob hf
    refine rw_getR X dX9_beginVisit_151 fl9_12 e151 rfl hP ?_
    refine rw_aload_n X dX9_beginVisit_154 rfl (hl.at 1 rfl) ?_
    obtain ⟨v155, e155, hf⟩ := ob hf
    refine rw_getR X dX9_beginVisit_155 fl9_120 e155 rfl hP ?_
    obtain ⟨u158, r158, hf⟩ := ob hf
    obtain ⟨S158, e158, hf⟩ := ob hf
    refine rw_callVv (As := [va_rf v155]) X dX9_beginVisit_158 clX9_98 pyX0_change (mX0_change l e158) (by decide) r158 rfl hP rfl (catL c1n (Nat.le_of_ble_eq_true rfl)) hl.1.1 (fun H locs hP => ?_)
    refine lv_iconst (v := 2) hx hb dX9_beginVisit_161 (by decide) ?_
    cases hf
    exact rw_iret X dX9_beginVisit_162 hP
  have hf := ifn hf c44_3
  by_cases c44_4 : v41 = 4
  · have hf := ifp hf c44_4
    refine lv_tableIn (tgt := 163) hx hb dX9_beginVisit_44 (by rw [c44_4]; decide) (by rw [c44_4]; decide) (by rw [c44_4]; rfl) (by decide) ?_
    refine rw_aload_n X dX9_beginVisit_163 rfl (hl.at 0 rfl) ?_
    refine rw_aload_n X dX9_beginVisit_164 rfl (hl.at 2 rfl) ?_
    obtain ⟨v165, e165, hf⟩ := ob hf
    refine rw_getR X dX9_beginVisit_165 fl9_127 e165 rfl hP ?_
    obtain ⟨u168, r168, hf⟩ := ob hf
    obtain ⟨q168, e168, hf⟩ := ob hf
    refine rw_callVi (As := [va_rf v165]) X dX9_beginVisit_168 clX9_130 pyX9_goDown (mX9_goDown l e168) (by decide) r168 rfl hP rfl (catL c1n (Nat.le_of_ble_eq_true rfl)) hl.1.1 (fun H locs hP => ?_)
    cases hf
    exact rw_iret X dX9_beginVisit_171 hP
  have hf := ifn hf c44_4
  by_cases c44_5 : v41 = 5
  · have hf := ifp hf c44_5
    refine lv_tableIn (tgt := 163) hx hb dX9_beginVisit_44 (by rw [c44_5]; decide) (by rw [c44_5]; decide) (by rw [c44_5]; rfl) (by decide) ?_
    refine rw_aload_n X dX9_beginVisit_163 rfl (hl.at 0 rfl) ?_
    refine rw_aload_n X dX9_beginVisit_164 rfl (hl.at 2 rfl) ?_
    obtain ⟨v165, e165, hf⟩ := ob hf
    refine rw_getR X dX9_beginVisit_165 fl9_127 e165 rfl hP ?_
    obtain ⟨u168, r168, hf⟩ := ob hf
    obtain ⟨q168, e168, hf⟩ := ob hf
    refine rw_callVi (As := [va_rf v165]) X dX9_beginVisit_168 clX9_130 pyX9_goDown (mX9_goDown l e168) (by decide) r168 rfl hP rfl (catL c1n (Nat.le_of_ble_eq_true rfl)) hl.1.1 (fun H locs hP => ?_)
    cases hf
    exact rw_iret X dX9_beginVisit_171 hP
  have hf := ifn hf c44_5
  by_cases c44_6 : v41 = 6
  · have hf := ifp hf c44_6
    refine lv_tableIn (tgt := 231) hx hb dX9_beginVisit_44 (by rw [c44_6]; decide) (by rw [c44_6]; decide) (by rw [c44_6]; rfl) (by decide) ?_
    refine rw_aload_n X dX9_beginVisit_231 rfl (hl.at 0 rfl) ?_
    refine rw_aload_n X dX9_beginVisit_232 rfl (hl.at 1 rfl) ?_
    obtain ⟨v233, e233, hf⟩ := ob hf
    refine rw_getR X dX9_beginVisit_233 fl9_133 e233 rfl hP ?_
    obtain ⟨u236, r236, hf⟩ := ob hf
    obtain ⟨q236, e236, hf⟩ := ob hf
    refine rw_callVi (As := [va_rf v233]) X dX9_beginVisit_236 clX9_130 pyX9_goDown (mX9_goDown l e236) (by decide) r236 rfl hP rfl (catL c1n (Nat.le_of_ble_eq_true rfl)) hl.1.1 (fun H locs hP => ?_)
    cases hf
    exact rw_iret X dX9_beginVisit_239 hP
  have hf := ifn hf c44_6
  by_cases c44_7 : v41 = 7
  · have hf := ifp hf c44_7
    refine lv_tableIn (tgt := 231) hx hb dX9_beginVisit_44 (by rw [c44_7]; decide) (by rw [c44_7]; decide) (by rw [c44_7]; rfl) (by decide) ?_
    refine rw_aload_n X dX9_beginVisit_231 rfl (hl.at 0 rfl) ?_
    refine rw_aload_n X dX9_beginVisit_232 rfl (hl.at 1 rfl) ?_
    obtain ⟨v233, e233, hf⟩ := ob hf
    refine rw_getR X dX9_beginVisit_233 fl9_133 e233 rfl hP ?_
    obtain ⟨u236, r236, hf⟩ := ob hf
    obtain ⟨q236, e236, hf⟩ := ob hf
    refine rw_callVi (As := [va_rf v233]) X dX9_beginVisit_236 clX9_130 pyX9_goDown (mX9_goDown l e236) (by decide) r236 rfl hP rfl (catL c1n (Nat.le_of_ble_eq_true rfl)) hl.1.1 (fun H locs hP => ?_)
    cases hf
    exact rw_iret X dX9_beginVisit_239 hP
  have hf := ifn hf c44_7
  by_cases c44_8 : v41 = 8
  · have hf := ifp hf c44_8
    refine lv_tableIn (tgt := 172) hx hb dX9_beginVisit_44 (by rw [c44_8]; decide) (by rw [c44_8]; decide) (by rw [c44_8]; rfl) (by decide) ?_
    refine rw_aload_n X dX9_beginVisit_172 rfl (hl.at 0 rfl) ?_
    refine rw_aload_n X dX9_beginVisit_173 rfl (hl.at 1 rfl) ?_
    refine rw_aload_n X dX9_beginVisit_174 rfl (hl.at 1 rfl) ?_
    obtain ⟨v175, e175, hf⟩ := ob hf
    refine rw_getR X dX9_beginVisit_175 fl9_133 e175 rfl hP ?_
    obtain ⟨u178, r178, hf⟩ := ob hf
    obtain ⟨q178, e178, hf⟩ := ob hf
    refine rw_callVi (As := [va_rf l1, va_rf v175]) X dX9_beginVisit_178 clX9_136 pyX9_goOnInParallel (mX9_goOnInParallel l e178) (by decide) r178 rfl hP rfl (catL c1n (Nat.le_of_ble_eq_true rfl)) hl.1.1 (fun H locs hP => ?_)
    cases hf
    exact rw_iret X dX9_beginVisit_181 hP
  have hf := ifn hf c44_8
  by_cases c44_9 : v41 = 9
  · have hf := ifp hf c44_9
    refine lv_tableIn (tgt := 231) hx hb dX9_beginVisit_44 (by rw [c44_9]; decide) (by rw [c44_9]; decide) (by rw [c44_9]; rfl) (by decide) ?_
    refine rw_aload_n X dX9_beginVisit_231 rfl (hl.at 0 rfl) ?_
    refine rw_aload_n X dX9_beginVisit_232 rfl (hl.at 1 rfl) ?_
    obtain ⟨v233, e233, hf⟩ := ob hf
    refine rw_getR X dX9_beginVisit_233 fl9_133 e233 rfl hP ?_
    obtain ⟨u236, r236, hf⟩ := ob hf
    obtain ⟨q236, e236, hf⟩ := ob hf
    refine rw_callVi (As := [va_rf v233]) X dX9_beginVisit_236 clX9_130 pyX9_goDown (mX9_goDown l e236) (by decide) r236 rfl hP rfl (catL c1n (Nat.le_of_ble_eq_true rfl)) hl.1.1 (fun H locs hP => ?_)
    cases hf
    exact rw_iret X dX9_beginVisit_239 hP
  have hf := ifn hf c44_9
  by_cases c44_10 : v41 = 10
  · have hf := ifp hf c44_10
    refine lv_tableIn (tgt := 231) hx hb dX9_beginVisit_44 (by rw [c44_10]; decide) (by rw [c44_10]; decide) (by rw [c44_10]; rfl) (by decide) ?_
    refine rw_aload_n X dX9_beginVisit_231 rfl (hl.at 0 rfl) ?_
    refine rw_aload_n X dX9_beginVisit_232 rfl (hl.at 1 rfl) ?_
    obtain ⟨v233, e233, hf⟩ := ob hf
    refine rw_getR X dX9_beginVisit_233 fl9_133 e233 rfl hP ?_
    obtain ⟨u236, r236, hf⟩ := ob hf
    obtain ⟨q236, e236, hf⟩ := ob hf
    refine rw_callVi (As := [va_rf v233]) X dX9_beginVisit_236 clX9_130 pyX9_goDown (mX9_goDown l e236) (by decide) r236 rfl hP rfl (catL c1n (Nat.le_of_ble_eq_true rfl)) hl.1.1 (fun H locs hP => ?_)
    cases hf
    exact rw_iret X dX9_beginVisit_239 hP
  have hf := ifn hf c44_10
  by_cases c44_11 : v41 = 11
  · have hf := ifp hf c44_11
    refine lv_tableIn (tgt := 231) hx hb dX9_beginVisit_44 (by rw [c44_11]; decide) (by rw [c44_11]; decide) (by rw [c44_11]; rfl) (by decide) ?_
    refine rw_aload_n X dX9_beginVisit_231 rfl (hl.at 0 rfl) ?_
    refine rw_aload_n X dX9_beginVisit_232 rfl (hl.at 1 rfl) ?_
    obtain ⟨v233, e233, hf⟩ := ob hf
    refine rw_getR X dX9_beginVisit_233 fl9_133 e233 rfl hP ?_
    obtain ⟨u236, r236, hf⟩ := ob hf
    obtain ⟨q236, e236, hf⟩ := ob hf
    refine rw_callVi (As := [va_rf v233]) X dX9_beginVisit_236 clX9_130 pyX9_goDown (mX9_goDown l e236) (by decide) r236 rfl hP rfl (catL c1n (Nat.le_of_ble_eq_true rfl)) hl.1.1 (fun H locs hP => ?_)
    cases hf
    exact rw_iret X dX9_beginVisit_239 hP
  have hf := ifn hf c44_11
  by_cases c44_12 : v41 = 12
  · have hf := ifp hf c44_12
    refine lv_tableIn (tgt := 182) hx hb dX9_beginVisit_44 (by rw [c44_12]; decide) (by rw [c44_12]; decide) (by rw [c44_12]; rfl) (by decide) ?_
    refine rw_aload_n X dX9_beginVisit_182 rfl (hl.at 0 rfl) ?_
    refine rw_aload_n X dX9_beginVisit_183 rfl (hl.at 0 rfl) ?_
    obtain ⟨v184, e184, hf⟩ := ob hf
    refine rw_getR X dX9_beginVisit_184 fl9_12 e184 rfl hP ?_
    refine rw_aload_n X dX9_beginVisit_187 rfl (hl.at 1 rfl) ?_
    obtain ⟨v188, e188, hf⟩ := ob hf
    refine rw_getR X dX9_beginVisit_188 fl9_120 e188 rfl hP ?_
    obtain ⟨u191, r191, hf⟩ := ob hf
    obtain ⟨v191, e191, hf⟩ := ob hf
    refine rw_callVi (As := [va_rf v188]) X dX9_beginVisit_191 clX9_123 pyX0_fulfils (mX0_fulfils l e191) (by decide) r191 rfl hP rfl (catL (c1c (cr _) c1n) (Nat.le_of_ble_eq_true rfl)) hl.1.1 (fun H locs hP => ?_)
    refine rw_aload_n X dX9_beginVisit_194 rfl (hl.at 1 rfl) ?_
    obtain ⟨u195, r195, hf⟩ := ob hf
    obtain ⟨q195, e195, hf⟩ := ob hf
    refine rw_callVi (As := [.int v191, va_rf l1]) X dX9_beginVisit_195 clX9_140 pyX9_goDownIf (mX9_goDownIf l e195) (by decide) r195 rfl hP rfl (catL c1n (Nat.le_of_ble_eq_true rfl)) hl.1.1 (fun H locs hP => ?_)
    cases hf
    exact rw_iret X dX9_beginVisit_198 hP
  have hf := ifn hf c44_12
  by_cases c44_13 : v41 = 13
  · have hf := ifp hf c44_13
    refine lv_tableIn (tgt := 199) hx hb dX9_beginVisit_44 (by rw [c44_13]; decide) (by rw [c44_13]; decide) (by rw [c44_13]; rfl) (by decide) ?_
    refine rw_aload_n X dX9_beginVisit_199 rfl (hl.at 2 rfl) ?_
    refine lv_dup hx hb dX9_beginVisit_200 (cr _) ?_
    obtain ⟨v201, e201, hf⟩ := ob hf
    refine rw_getI X dX9_beginVisit_201 fl9_144 e201 rfl hP ?_
    refine lv_iconst (v := 1) hx hb dX9_beginVisit_204 (by decide) ?_
    refine lv_iadd hx hb dX9_beginVisit_205 ?_
    obtain ⟨S206, e206, hf⟩ := ob hf
    refine rw_putI X dX9_beginVisit_206 fl9_144 fw3_1 e206 rfl hP (fun H locs hP => ?_)
    refine rw_aload_n X dX9_beginVisit_209 rfl (hl.at 0 rfl) ?_
    refine rw_aload_n X dX9_beginVisit_210 rfl (hl.at 2 rfl) ?_
    obtain ⟨v211, e211, hf⟩ := ob hf
    refine rw_getI X dX9_beginVisit_211 fl9_144 e211 rfl hP ?_
    refine rw_aload_n X dX9_beginVisit_214 rfl (hl.at 1 rfl) ?_
    obtain ⟨v215, e215, hf⟩ := ob hf
    refine rw_getI X dX9_beginVisit_215 fl9_147 e215 rfl hP ?_
    refine lv_icmp_gt hx hb (tgt := 225) dX9_beginVisit_218 (by decide) (fun c218 => ?_) (fun c218 => ?_)
    · have hf := ifp hf c218
      refine lv_iconst (v := 0) hx hb dX9_beginVisit_225 (by decide) ?_
      refine rw_aload_n X dX9_beginVisit_226 rfl (hl.at 1 rfl) ?_
      obtain ⟨u227, r227, hf⟩ := ob hf
      obtain ⟨q227, e227, hf⟩ := ob hf
      refine rw_callVi (As := [.int 0, va_rf l1]) X dX9_beginVisit_227 clX9_140 pyX9_goDownIf (mX9_goDownIf l e227) (by decide) r227 rfl hP rfl (catL c1n (Nat.le_of_ble_eq_true rfl)) hl.1.1 (fun H locs hP => ?_)
      cases hf
      exact rw_iret X dX9_beginVisit_230 hP
    · have hf := ifn hf c218
      refine lv_iconst (v := 1) hx hb dX9_beginVisit_221 (by decide) ?_
      refine lv_goto (tgt := 226) hx hb dX9_beginVisit_222 (by decide) ?_
      refine rw_aload_n X dX9_beginVisit_226 rfl (hl.at 1 rfl) ?_
      obtain ⟨u227, r227, hf⟩ := ob hf
      obtain ⟨q227, e227, hf⟩ := ob hf
      refine rw_callVi (As := [.int 1, va_rf l1]) X dX9_beginVisit_227 clX9_140 pyX9_goDownIf (mX9_goDownIf l e227) (by decide) r227 rfl hP rfl (catL c1n (Nat.le_of_ble_eq_true rfl)) hl.1.1 (fun H locs hP => ?_)
      cases hf
      exact rw_iret X dX9_beginVisit_230 hP
  have hf := ifn hf c44_13
  have t44_0 := tsw (k := 0) (v := 0) (by decide) c44_0
  have t44_1 := tsw (k := 1) (v := 1) (by decide) c44_1
  have t44_2 := tsw (k := 2) (v := 2) (by decide) c44_2
  have t44_3 := tsw (k := 3) (v := 3) (by decide) c44_3
  have t44_4 := tsw (k := 4) (v := 4) (by decide) c44_4
  have t44_5 := tsw (k := 5) (v := 5) (by decide) c44_5
  have t44_6 := tsw (k := 6) (v := 6) (by decide) c44_6
  have t44_7 := tsw (k := 7) (v := 7) (by decide) c44_7
  have t44_8 := tsw (k := 8) (v := 8) (by decide) c44_8
  have t44_9 := tsw (k := 9) (v := 9) (by decide) c44_9
  have t44_10 := tsw (k := 10) (v := 10) (by decide) c44_10
  have t44_11 := tsw (k := 11) (v := 11) (by decide) c44_11
  have t44_12 := tsw (k := 12) (v := 12) (by decide) c44_12
  have t44_13 := tsw (k := 13) (v := 13) (by decide) c44_13
  refine lv_tableOut (tgt := 231) hx hb dX9_beginVisit_44 (by omega) (by decide) ?_
  refine rw_aload_n X dX9_beginVisit_231 rfl (hl.at 0 rfl) ?_
  refine rw_aload_n X dX9_beginVisit_232 rfl (hl.at 1 rfl) ?_
  obtain ⟨v233, e233, hf⟩ := ob hf
  refine rw_getR X dX9_beginVisit_233 fl9_133 e233 rfl hP ?_
  obtain ⟨u236, r236, hf⟩ := ob hf
  obtain ⟨q236, e236, hf⟩ := ob hf
  refine rw_callVi (As := [va_rf v233]) X dX9_beginVisit_236 clX9_130 pyX9_goDown (mX9_goDown l e236) (by decide) r236 rfl hP rfl (catL c1n (Nat.le_of_ble_eq_true rfl)) hl.1.1 (fun H locs hP => ?_)
  cases hf
  exact rw_iret X dX9_beginVisit_239 hP
def fX9_beginVisit (Y : LY) (S : HS) (l0 : Option Nat) (l1 : Option Nat) : Option (HS × Int32) :=
  (gR Y 4 403 l1 S).bind fun v1 =>
  (gI Y 3 309 v1 S).bind fun v7 =>
  (pI Y 3 309 v1 (v7 + 1) S).bind fun S12 =>
  (gR Y 9 901 l0 S12).bind fun v16 =>
  (gI Y 2 204 v16 S12).bind fun v20 =>
  (pI Y 2 204 v16 (v20 + 1) S12).bind fun S25 =>
  (gI Y 3 300 v1 S25).bind fun v29 =>
  if v29 = 0 then
    (rcv Y 9 l0).bind fun _ =>
    (fX9_beginRun Y S25 l0 l1).bind fun S37 =>
    fX9_beginVisit_40 Y S37 l0 l1 v1
  else
    fX9_beginVisit_40 Y S25 l0 l1 v1
set_option maxRecDepth 100000 in
set_option maxHeartbeats 4000000 in
theorem mX9_beginVisit (l : Launch) {G : GG} {Y : LY} {S : HS} {l0 : Option Nat} {l1 : Option Nat} {res : HS × Int32} (hf : fX9_beginVisit Y S l0 l1 = some res) : MM l yX9_beginVisit cX9_beginVisit 3 (some .int) 5 123 G Y S [va_rf l0, va_rf l1] res.1 (some (.int res.2)) := by
  refine mm_of2 (plainFor_of_name (by decide +kernel)) (Nat.le_of_ble_eq_true rfl) (c1c (cr _) (c1c (cr _) c1n)) ?_
  intro p e R s m args below meth c X H locs ls hP hl
  have X : Cx p R s m args meth c RX9 cX9_beginVisit 3 5 123 (fun q => q ∈ Y.1) G (some .int) := X
  have hx := X.1.1
  have hb := X.1.2.1
  have hl : LV ls 3 [(0, va_rf l0), (1, va_rf l1)] := hl
  unfold fX9_beginVisit at hf
  refine rw_aload_n X dX9_beginVisit_0 rfl (hl.at 1 rfl) ?_
  obtain ⟨v1, e1, hf⟩ := ob hf
  refine rw_getR X dX9_beginVisit_1 fl9_60 e1 rfl hP ?_
  refine rv_astore_n X dX9_beginVisit_4 rfl hl (by decide) rfl (fun ls hl => ?_)
  have hl : LV ls 3 [(2, va_rf v1), (0, va_rf l0), (1, va_rf l1)] := hl
  refine rw_aload_n X dX9_beginVisit_5 rfl (hl.at 0 rfl) ?_
  refine lv_dup hx hb dX9_beginVisit_6 (cr _) ?_
  obtain ⟨v7, e7, hf⟩ := ob hf
  refine rw_getI X dX9_beginVisit_7 fl9_105 e7 rfl hP ?_
  refine lv_iconst (v := 1) hx hb dX9_beginVisit_10 (by decide) ?_
  refine lv_iadd hx hb dX9_beginVisit_11 ?_
  obtain ⟨S12, e12, hf⟩ := ob hf
  refine rw_putI X dX9_beginVisit_12 fl9_105 fw3_9 e12 rfl hP (fun H locs hP => ?_)
  refine rw_aload_n X dX9_beginVisit_15 rfl (hl.at 1 rfl) ?_
  obtain ⟨v16, e16, hf⟩ := ob hf
  refine rw_getR X dX9_beginVisit_16 fl9_21 e16 rfl hP ?_
  refine lv_dup hx hb dX9_beginVisit_19 (cr _) ?_
  obtain ⟨v20, e20, hf⟩ := ob hf
  refine rw_getI X dX9_beginVisit_20 fl9_108 e20 rfl hP ?_
  refine lv_iconst (v := 1) hx hb dX9_beginVisit_23 (by decide) ?_
  refine lv_iadd hx hb dX9_beginVisit_24 ?_
  obtain ⟨S25, e25, hf⟩ := ob hf
  refine rw_putI X dX9_beginVisit_25 fl9_108 fw2_4 e25 rfl hP (fun H locs hP => ?_)
  refine rw_aload_n X dX9_beginVisit_28 rfl (hl.at 0 rfl) ?_
  obtain ⟨v29, e29, hf⟩ := ob hf
  refine rw_getI X dX9_beginVisit_29 fl9_64 e29 rfl hP ?_
  refine lv_if_ne hx hb (tgt := 40) dX9_beginVisit_32 (by decide) (fun c32 => ?_) (fun c32 => ?_)
  · have hf := ifn hf c32
    exact wX9_beginVisit_40 X S25 l0 l1 v1 hf _ _ _ hP (hl.sub [1, 2, 0] rfl)
  · have hf := ifp hf c32
    refine rw_aload_n X dX9_beginVisit_35 rfl (hl.at 1 rfl) ?_
    refine rw_aload_n X dX9_beginVisit_36 rfl (hl.at 2 rfl) ?_
    obtain ⟨u37, r37, hf⟩ := ob hf
    obtain ⟨S37, e37, hf⟩ := ob hf
    refine rw_callVv (As := [va_rf l1]) X dX9_beginVisit_37 clX9_109 pyX9_beginRun (mX9_beginRun l e37) (by decide) r37 rfl hP rfl (catL c1n (Nat.le_of_ble_eq_true rfl)) hl.1.1 (fun H locs hP => ?_)
    exact wX9_beginVisit_40 X S37 l0 l1 v1 hf _ _ _ hP (hl.sub [1, 2, 0] rfl)
theorem dX9_endVisit_0 : decode cX9_endVisit 0 = .ok (.aload_n 1, 1) := by decide +kernel
theorem dX9_endVisit_1 : decode cX9_endVisit 1 = .ok (.getfield 60, 3) := by decide +kernel
theorem dX9_endVisit_4 : decode cX9_endVisit 4 = .ok (.iload_n 2, 1) := by decide +kernel
theorem dX9_endVisit_5 : decode cX9_endVisit 5 = .ok (.putfield 156, 3) := by decide +kernel
theorem dX9_endVisit_8 : decode cX9_endVisit 8 = .ok (.iload_n 2, 1) := by decide +kernel
theorem dX9_endVisit_9 : decode cX9_endVisit 9 = .ok (.iconst 1, 1) := by decide +kernel
theorem dX9_endVisit_10 : decode cX9_endVisit 10 = .ok (.if_icmp .ne 15, 3) := by decide +kernel
theorem dX9_endVisit_13 : decode cX9_endVisit 13 = .ok (.aload_n 0, 1) := by decide +kernel
theorem dX9_endVisit_14 : decode cX9_endVisit 14 = .ok (.getfield 21, 3) := by decide +kernel
theorem dX9_endVisit_17 : decode cX9_endVisit 17 = .ok (.aload_n 1, 1) := by decide +kernel
theorem dX9_endVisit_18 : decode cX9_endVisit 18 = .ok (.iload_n 2, 1) := by decide +kernel
theorem dX9_endVisit_19 : decode cX9_endVisit 19 = .ok (.invokevirtual 86, 3) := by decide +kernel
theorem dX9_endVisit_22 : decode cX9_endVisit 22 = .ok (.goto 9, 3) := by decide +kernel
theorem dX9_endVisit_25 : decode cX9_endVisit 25 = .ok (.aload_n 0, 1) := by decide +kernel
theorem dX9_endVisit_26 : decode cX9_endVisit 26 = .ok (.aload_n 1, 1) := by decide +kernel
theorem dX9_endVisit_27 : decode cX9_endVisit 27 = .ok (.iload_n 2, 1) := by decide +kernel
theorem dX9_endVisit_28 : decode cX9_endVisit 28 = .ok (.invokevirtual 70, 3) := by decide +kernel
theorem dX9_endVisit_31 : decode cX9_endVisit 31 = .ok (.return_, 1) := by decide +kernel
theorem pyX9_endVisit : PY yX9_endVisit 2 := ⟨by decide +kernel, by decide +kernel, by decide +kernel⟩
def fX9_endVisit (Y : LY) (S : HS) (l0 : Option Nat) (l1 : Option Nat) (l2 : Int32) : Option (HS) :=
  (gR Y 4 403 l1 S).bind fun v1 =>
  (pI Y 3 303 v1 l2 S).bind fun S5 =>
  if l2 = 1 then
    (gR Y 9 901 l0 S5).bind fun v14 =>
    (rcv Y 2 v14).bind fun _ =>
    (fX2_enter Y S5 v14 l1 l2).bind fun S19 =>
    some S19
  else
    (rcv Y 9 l0).bind fun _ =>
    (fX9_endRun Y S5 l0 l1 l2).bind fun S28 =>
    some S28
set_option maxRecDepth 100000 in
set_option maxHeartbeats 4000000 in
theorem mX9_endVisit (l : Launch) {G : GG} {Y : LY} {S : HS} {l0 : Option Nat} {l1 : Option Nat} {l2 : Int32} {res : HS} (hf : fX9_endVisit Y S l0 l1 l2 = some res) : MM l yX9_endVisit cX9_endVisit 3 none 3 75 G Y S [va_rf l0, va_rf l1, .int l2] res none := by
  refine mm_of2 (plainFor_of_name (by decide +kernel)) (Nat.le_of_ble_eq_true rfl) (c1c (cr _) (c1c (cr _) (c1c (ci _) c1n))) ?_
  intro p e R s m args below meth c X H locs ls hP hl
  have X : Cx p R s m args meth c RX9 cX9_endVisit 3 3 75 (fun q => q ∈ Y.1) G none := X
  have hx := X.1.1
  have hb := X.1.2.1
  have hl : LV ls 3 [(0, va_rf l0), (1, va_rf l1), (2, .int l2)] := hl
  unfold fX9_endVisit at hf
  refine rw_aload_n X dX9_endVisit_0 rfl (hl.at 1 rfl) ?_
  obtain ⟨v1, e1, hf⟩ := ob hf
  refine rw_getR X dX9_endVisit_1 fl9_60 e1 rfl hP ?_
  refine lv_iload_n hx hb dX9_endVisit_4 rfl (hl.at 2 rfl) ?_
  obtain ⟨S5, e5, hf⟩ := ob hf
  refine rw_putI X dX9_endVisit_5 fl9_156 fw3_3 e5 rfl hP (fun H locs hP => ?_)
  refine lv_iload_n hx hb dX9_endVisit_8 rfl (hl.at 2 rfl) ?_
  refine lv_iconst (v := 1) hx hb dX9_endVisit_9 (by decide) ?_
  refine lv_icmp_ne hx hb (tgt := 25) dX9_endVisit_10 (by decide) (fun c10 => ?_) (fun c10 => ?_)
  · have hf := ifn hf c10
    refine rw_aload_n X dX9_endVisit_25 rfl (hl.at 0 rfl) ?_
    refine rw_aload_n X dX9_endVisit_26 rfl (hl.at 1 rfl) ?_
    refine lv_iload_n hx hb dX9_endVisit_27 rfl (hl.at 2 rfl) ?_
    obtain ⟨u28, r28, hf⟩ := ob hf
    obtain ⟨S28, e28, hf⟩ := ob hf
    refine rw_callVv (As := [va_rf l1, .int l2]) X dX9_endVisit_28 clX9_70 pyX9_endRun (mX9_endRun l e28) (by decide) r28 rfl hP rfl (catL c1n (Nat.le_of_ble_eq_true rfl)) hl.1.1 (fun H locs hP => ?_)
    cases hf
    exact rw_vret X dX9_endVisit_31 hP
  · have hf := ifp hf c10
    refine rw_aload_n X dX9_endVisit_13 rfl (hl.at 0 rfl) ?_
    obtain ⟨v14, e14, hf⟩ := ob hf
    refine rw_getR X dX9_endVisit_14 fl9_21 e14 rfl hP ?_
    refine rw_aload_n X dX9_endVisit_17 rfl (hl.at 1 rfl) ?_
    refine lv_iload_n hx hb dX9_endVisit_18 rfl (hl.at 2 rfl) ?_
    obtain ⟨u19, r19, hf⟩ := ob hf
    obtain ⟨S19, e19, hf⟩ := ob hf
    refine rw_callVv (As := [va_rf l1, .int l2]) X dX9_endVisit_19 clX9_86 pyX2_enter (mX2_enter l e19) (by decide) r19 rfl hP rfl (catL c1n (Nat.le_of_ble_eq_true rfl)) hl.1.1 (fun H locs hP => ?_)
    refine lv_goto (tgt := 31) hx hb dX9_endVisit_22 (by decide) ?_
    cases hf
    exact rw_vret X dX9_endVisit_31 hP
theorem dX9_goOnInList_0 : decode cX9_goOnInList 0 = .ok (.aload_n 2, 1) := by decide +kernel
theorem dX9_goOnInList_1 : decode cX9_goOnInList 1 = .ok (.getfield 159, 3) := by decide +kernel
theorem dX9_goOnInList_4 : decode cX9_goOnInList 4 = .ok (.astore 5, 2) := by decide +kernel
theorem dX9_goOnInList_6 : decode cX9_goOnInList 6 = .ok (.iload_n 3, 1) := by decide +kernel
theorem dX9_goOnInList_7 : decode cX9_goOnInList 7 = .ok (.iload 4, 2) := by decide +kernel
theorem dX9_goOnInList_9 : decode cX9_goOnInList 9 = .ok (.if_icmp .ne 24, 3) := by decide +kernel
theorem dX9_goOnInList_12 : decode cX9_goOnInList 12 = .ok (.aload 5, 2) := by decide +kernel
theorem dX9_goOnInList_14 : decode cX9_goOnInList 14 = .ok (.ifnull 19, 3) := by decide +kernel
theorem dX9_goOnInList_17 : decode cX9_goOnInList 17 = .ok (.aload_n 1, 1) := by decide +kernel
theorem dX9_goOnInList_18 : decode cX9_goOnInList 18 = .ok (.getfield 60, 3) := by decide +kernel
theorem dX9_goOnInList_21 : decode cX9_goOnInList 21 = .ok (.aload 5, 2) := by decide +kernel
theorem dX9_goOnInList_23 : decode cX9_goOnInList 23 = .ok (.putfield 127, 3) := by decide +kernel
theorem dX9_goOnInList_26 : decode cX9_goOnInList 26 = .ok (.aload_n 0, 1) := by decide +kernel
theorem dX9_goOnInList_27 : decode cX9_goOnInList 27 = .ok (.aload 5, 2) := by decide +kernel
theorem dX9_goOnInList_29 : decode cX9_goOnInList 29 = .ok (.invokevirtual 130, 3) := by decide +kernel
theorem dX9_goOnInList_32 : decode cX9_goOnInList 32 = .ok (.ireturn, 1) := by decide +kernel
theorem dX9_goOnInList_33 : decode cX9_goOnInList 33 = .ok (.aload_n 1, 1) := by decide +kernel
theorem dX9_goOnInList_34 : decode cX9_goOnInList 34 = .ok (.invokevirtual 174, 3) := by decide +kernel
theorem dX9_goOnInList_37 : decode cX9_goOnInList 37 = .ok (.ifCond .eq 10, 3) := by decide +kernel
theorem dX9_goOnInList_40 : decode cX9_goOnInList 40 = .ok (.aload_n 0, 1) := by decide +kernel
theorem dX9_goOnInList_41 : decode cX9_goOnInList 41 = .ok (.aload_n 1, 1) := by decide +kernel
theorem dX9_goOnInList_42 : decode cX9_goOnInList 42 = .ok (.aload 5, 2) := by decide +kernel
theorem dX9_goOnInList_44 : decode cX9_goOnInList 44 = .ok (.invokevirtual 162, 3) := by decide +kernel
theorem dX9_goOnInList_47 : decode cX9_goOnInList 47 = .ok (.iload_n 3, 1) := by decide +kernel
theorem dX9_goOnInList_48 : decode cX9_goOnInList 48 = .ok (.ireturn, 1) := by decide +kernel
theorem pyX9_goOnInList : PY yX9_goOnInList 4 := ⟨by decide +kernel, by decide +kernel, by decide +kernel⟩
def fX9_goOnInList_33 (Y : LY) (S : HS) (l0 : Option Nat) (l1 : Option Nat) (l3 : Int32) (l5 : Option Nat) : Option (HS × Int32) :=
  (rcv Y 4 l1).bind fun _ =>
  (fX4_isReactive Y S l1 ).bind fun v34 =>
  if v34 = 0 then
    some (S, l3)
  else
    (rcv Y 9 l0).bind fun _ =>
    (fX9_stopBack Y S l0 l1 l5).bind fun S44 =>
    some (S44, l3)
set_option maxRecDepth 100000 in
set_option maxHeartbeats 4000000 in
theorem wX9_goOnInList_33 {p : Program} {l : Launch} {e : Env} {R : Room} {s : State} {m : MethodId} {args : Array Value} {below : List Frame} {meth : Method} {c : Code} {G : GG} {Y : LY} {res : HS × Int32} (X : Cx p R s m args meth c RX9 cX9_goOnInList 6 4 98 (fun q => q ∈ Y.1) G (some .int)) : ∀ (S : HS) (l0 : Option Nat) (l1 : Option Nat) (l3 : Int32) (l5 : Option Nat), fX9_goOnInList_33 Y S l0 l1 l3 l5 = some res → ∀ (H : Heap) (locs : List Loc) (ls : Array Slot), HP (fun q => q ∈ Y.1) G Y s S H locs → LV ls 6 [(0, va_rf l0), (1, va_rf l1), (3, .int l3), (5, va_rf l5)] → W p l e R s m args below meth c H locs 0 0 (MQ below (QI G Y res.1 (some (.int res.2))) args s 0 0 (fun q => q ∈ Y.1)) (F0 m 33 ls []) := by
  have hx := X.1.1
  have hb := X.1.2.1
  intro S l0 l1 l3 l5 hf H locs ls hP hl
  unfold fX9_goOnInList_33 at hf
  refine rw_aload_n X dX9_goOnInList_33 rfl (hl.at 1 rfl) ?_
  obtain ⟨u34, r34, hf⟩ := ob hf
  obtain ⟨v34, e34, hf⟩ := ob hf
  refine rw_callVi (As := []) X dX9_goOnInList_34 clX9_174 pyX4_isReactive (mX4_isReactive l e34) (by decide) r34 rfl hP rfl (catL c1n (Nat.le_of_ble_eq_true rfl)) hl.1.1 (fun H locs hP => ?_)
  refine lv_if_eq hx hb (tgt := 47) dX9_goOnInList_37 (by decide) (fun c37 => ?_) (fun c37 => ?_)
  · have hf := ifp hf c37
    refine lv_iload_n hx hb dX9_goOnInList_47 rfl (hl.at 2 rfl) ?_
    cases hf
    exact rw_iret X dX9_goOnInList_48 hP
  · have hf := ifn hf c37
    refine rw_aload_n X dX9_goOnInList_40 rfl (hl.at 0 rfl) ?_
    refine rw_aload_n X dX9_goOnInList_41 rfl (hl.at 1 rfl) ?_
    refine rw_aload X dX9_goOnInList_42 (hl.at 3 rfl) ?_
    obtain ⟨u44, r44, hf⟩ := ob hf
    obtain ⟨S44, e44, hf⟩ := ob hf
    refine rw_callVv (As := [va_rf l1, va_rf l5]) X dX9_goOnInList_44 clX9_162 pyX9_stopBack (mX9_stopBack l e44) (by decide) r44 rfl hP rfl (catL c1n (Nat.le_of_ble_eq_true rfl)) hl.1.1 (fun H locs hP => ?_)
    refine lv_iload_n hx hb dX9_goOnInList_47 rfl (hl.at 2 rfl) ?_
    cases hf
    exact rw_iret X dX9_goOnInList_48 hP
def fX9_goOnInList (Y : LY) (S : HS) (l0 : Option Nat) (l1 : Option Nat) (l2 : Option Nat) (l3 : Int32) (l4 : Int32) : Option (HS × Int32) :=
  (gR Y 4 412 l2 S).bind fun v1 =>
  if l3 = l4 then
    if v1 = none then
      fX9_goOnInList_33 Y S l0 l1 l3 v1
    else
      (gR Y 4 403 l1 S).bind fun v18 =>
      (pR Y 3 302 v18 v1 S).bind fun S23 =>
      (rcv Y 9 l0).bind fun _ =>
      (fX9_goDown Y S23 l0 v1).bind fun q29 =>
      some (q29.1, q29.2)
  else
    fX9_goOnInList_33 Y S l0 l1 l3 v1
set_option maxRecDepth 100000 in
set_option maxHeartbeats 4000000 in
theorem mX9_goOnInList (l : Launch) {G : GG} {Y : LY} {S : HS} {l0 : Option Nat} {l1 : Option Nat} {l2 : Option Nat} {l3 : Int32} {l4 : Int32} {res : HS × Int32} (hf : fX9_goOnInList Y S l0 l1 l2 l3 l4 = some res) : MM l yX9_goOnInList cX9_goOnInList 6 (some .int) 4 98 G Y S [va_rf l0, va_rf l1, va_rf l2, .int l3, .int l4] res.1 (some (.int res.2)) := by
  refine mm_of2 (plainFor_of_name (by decide +kernel)) (Nat.le_of_ble_eq_true rfl) (c1c (cr _) (c1c (cr _) (c1c (cr _) (c1c (ci _) (c1c (ci _) c1n))))) ?_
  intro p e R s m args below meth c X H locs ls hP hl
  have X : Cx p R s m args meth c RX9 cX9_goOnInList 6 4 98 (fun q => q ∈ Y.1) G (some .int) := X
  have hx := X.1.1
  have hb := X.1.2.1
  have hl : LV ls 6 [(0, va_rf l0), (1, va_rf l1), (2, va_rf l2), (3, .int l3), (4, .int l4)] := hl
  unfold fX9_goOnInList at hf
  refine rw_aload_n X dX9_goOnInList_0 rfl (hl.at 2 rfl) ?_
  obtain ⟨v1, e1, hf⟩ := ob hf
  refine rw_getR X dX9_goOnInList_1 fl9_159 e1 rfl hP ?_
  refine rv_astore X dX9_goOnInList_4 hl (by decide) rfl (fun ls hl => ?_)
  have hl : LV ls 6 [(5, va_rf v1), (0, va_rf l0), (1, va_rf l1), (2, va_rf l2), (3, .int l3), (4, .int l4)] := hl
  refine lv_iload_n hx hb dX9_goOnInList_6 rfl (hl.at 4 rfl) ?_
  refine lv_iload hx hb dX9_goOnInList_7 (hl.at 5 rfl) ?_
  refine lv_icmp_ne hx hb (tgt := 33) dX9_goOnInList_9 (by decide) (fun c9 => ?_) (fun c9 => ?_)
  · have hf := ifn hf c9
    exact wX9_goOnInList_33 X S l0 l1 l3 v1 hf _ _ _ hP (hl.sub [1, 2, 4, 0] rfl)
  · have hf := ifp hf c9
    refine rw_aload X dX9_goOnInList_12 (hl.at 0 rfl) ?_
    refine rw_ifnull X (tgt := 33) dX9_goOnInList_14 (by decide) (fun c14 => ?_) (fun c14 => ?_)
    · have hf := ifp hf c14
      exact wX9_goOnInList_33 X S l0 l1 l3 v1 hf _ _ _ hP (hl.sub [1, 2, 4, 0] rfl)
    · have hf := ifn hf c14
      refine rw_aload_n X dX9_goOnInList_17 rfl (hl.at 2 rfl) ?_
      obtain ⟨v18, e18, hf⟩ := ob hf
      refine rw_getR X dX9_goOnInList_18 fl9_60 e18 rfl hP ?_
      refine rw_aload X dX9_goOnInList_21 (hl.at 0 rfl) ?_
      obtain ⟨S23, e23, hf⟩ := ob hf
      refine rw_putR X dX9_goOnInList_23 fl9_127 fw3_2 e23 rfl hP (fun H locs hP => ?_)
      refine rw_aload_n X dX9_goOnInList_26 rfl (hl.at 1 rfl) ?_
      refine rw_aload X dX9_goOnInList_27 (hl.at 0 rfl) ?_
      obtain ⟨u29, r29, hf⟩ := ob hf
      obtain ⟨q29, e29, hf⟩ := ob hf
      refine rw_callVi (As := [va_rf v1]) X dX9_goOnInList_29 clX9_130 pyX9_goDown (mX9_goDown l e29) (by decide) r29 rfl hP rfl (catL c1n (Nat.le_of_ble_eq_true rfl)) hl.1.1 (fun H locs hP => ?_)
      cases hf
      exact rw_iret X dX9_goOnInList_32 hP
theorem dX9_countResult_0 : decode cX9_countResult 0 = .ok (.iload_n 2, 1) := by decide +kernel
theorem dX9_countResult_1 : decode cX9_countResult 1 = .ok (.iload_n 3, 1) := by decide +kernel
theorem dX9_countResult_2 : decode cX9_countResult 2 = .ok (.if_icmp .eq 5, 3) := by decide +kernel
theorem dX9_countResult_5 : decode cX9_countResult 5 = .ok (.iload_n 2, 1) := by decide +kernel
theorem dX9_countResult_6 : decode cX9_countResult 6 = .ok (.ireturn, 1) := by decide +kernel
theorem dX9_countResult_7 : decode cX9_countResult 7 = .ok (.aload_n 1, 1) := by decide +kernel
theorem dX9_countResult_8 : decode cX9_countResult 8 = .ok (.getfield 60, 3) := by decide +kernel
theorem dX9_countResult_11 : decode cX9_countResult 11 = .ok (.dup, 1) := by decide +kernel
theorem dX9_countResult_12 : decode cX9_countResult 12 = .ok (.getfield 144, 3) := by decide +kernel
theorem dX9_countResult_15 : decode cX9_countResult 15 = .ok (.iconst 1, 1) := by decide +kernel
theorem dX9_countResult_16 : decode cX9_countResult 16 = .ok (.iadd, 1) := by decide +kernel
theorem dX9_countResult_17 : decode cX9_countResult 17 = .ok (.putfield 144, 3) := by decide +kernel
theorem dX9_countResult_20 : decode cX9_countResult 20 = .ok (.aload_n 1, 1) := by decide +kernel
theorem dX9_countResult_21 : decode cX9_countResult 21 = .ok (.getfield 60, 3) := by decide +kernel
theorem dX9_countResult_24 : decode cX9_countResult 24 = .ok (.getfield 144, 3) := by decide +kernel
theorem dX9_countResult_27 : decode cX9_countResult 27 = .ok (.aload_n 1, 1) := by decide +kernel
theorem dX9_countResult_28 : decode cX9_countResult 28 = .ok (.getfield 147, 3) := by decide +kernel
theorem dX9_countResult_31 : decode cX9_countResult 31 = .ok (.if_icmp .ge 7, 3) := by decide +kernel
theorem dX9_countResult_34 : decode cX9_countResult 34 = .ok (.iconst 1, 1) := by decide +kernel
theorem dX9_countResult_35 : decode cX9_countResult 35 = .ok (.goto 4, 3) := by decide +kernel
theorem dX9_countResult_38 : decode cX9_countResult 38 = .ok (.iload_n 2, 1) := by decide +kernel
theorem dX9_countResult_39 : decode cX9_countResult 39 = .ok (.ireturn, 1) := by decide +kernel
theorem pyX9_countResult : PY yX9_countResult 3 := ⟨by decide +kernel, by decide +kernel, by decide +kernel⟩
def fX9_countResult (Y : LY) (S : HS) (l0 : Option Nat) (l1 : Option Nat) (l2 : Int32) (l3 : Int32) : Option (HS × Int32) :=
  if l2 = l3 then
    (gR Y 4 403 l1 S).bind fun v8 =>
    (gI Y 3 301 v8 S).bind fun v12 =>
    (pI Y 3 301 v8 (v12 + 1) S).bind fun S17 =>
    (gR Y 4 403 l1 S17).bind fun v21 =>
    (gI Y 3 301 v21 S17).bind fun v24 =>
    (gI Y 4 405 l1 S17).bind fun v28 =>
    if v28 ≤ v24 then
      some (S17, l2)
    else
      some (S17, 1)
  else
    some (S, l2)
set_option maxRecDepth 100000 in
set_option maxHeartbeats 4000000 in
theorem mX9_countResult (l : Launch) {G : GG} {Y : LY} {S : HS} {l0 : Option Nat} {l1 : Option Nat} {l2 : Int32} {l3 : Int32} {res : HS × Int32} (hf : fX9_countResult Y S l0 l1 l2 l3 = some res) : MM l yX9_countResult cX9_countResult 4 (some .int) 0 0 G Y S [va_rf l0, va_rf l1, .int l2, .int l3] res.1 (some (.int res.2)) := by
  refine mm_of2 (plainFor_of_name (by decide +kernel)) (Nat.le_of_ble_eq_true rfl) (c1c (cr _) (c1c (cr _) (c1c (ci _) (c1c (ci _) c1n)))) ?_
  intro p e R s m args below meth c X H locs ls hP hl
  have X : Cx p R s m args meth c RX9 cX9_countResult 4 0 0 (fun q => q ∈ Y.1) G (some .int) := X
  have hx := X.1.1
  have hb := X.1.2.1
  have hl : LV ls 4 [(0, va_rf l0), (1, va_rf l1), (2, .int l2), (3, .int l3)] := hl
  unfold fX9_countResult at hf
  refine lv_iload_n hx hb dX9_countResult_0 rfl (hl.at 2 rfl) ?_
  refine lv_iload_n hx hb dX9_countResult_1 rfl (hl.at 3 rfl) ?_
  refine lv_icmp_eq hx hb (tgt := 7) dX9_countResult_2 (by decide) (fun c2 => ?_) (fun c2 => ?_)
  · have hf := ifp hf c2
    refine rw_aload_n X dX9_countResult_7 rfl (hl.at 1 rfl) ?_
    obtain ⟨v8, e8, hf⟩ := ob hf
    refine rw_getR X dX9_countResult_8 fl9_60 e8 rfl hP ?_
    refine lv_dup hx hb dX9_countResult_11 (cr _) ?_
    obtain ⟨v12, e12, hf⟩ := ob hf
    refine rw_getI X dX9_countResult_12 fl9_144 e12 rfl hP ?_
    refine lv_iconst (v := 1) hx hb dX9_countResult_15 (by decide) ?_
    refine lv_iadd hx hb dX9_countResult_16 ?_
    obtain ⟨S17, e17, hf⟩ := ob hf
    refine rw_putI X dX9_countResult_17 fl9_144 fw3_1 e17 rfl hP (fun H locs hP => ?_)
    refine rw_aload_n X dX9_countResult_20 rfl (hl.at 1 rfl) ?_
    obtain ⟨v21, e21, hf⟩ := ob hf
    refine rw_getR X dX9_countResult_21 fl9_60 e21 rfl hP ?_
    obtain ⟨v24, e24, hf⟩ := ob hf
    refine rw_getI X dX9_countResult_24 fl9_144 e24 rfl hP ?_
    refine rw_aload_n X dX9_countResult_27 rfl (hl.at 1 rfl) ?_
    obtain ⟨v28, e28, hf⟩ := ob hf
    refine rw_getI X dX9_countResult_28 fl9_147 e28 rfl hP ?_
    refine lv_icmp_ge hx hb (tgt := 38) dX9_countResult_31 (by decide) (fun c31 => ?_) (fun c31 => ?_)
    · have hf := ifp hf c31
      refine lv_iload_n hx hb dX9_countResult_38 rfl (hl.at 2 rfl) ?_
      cases hf
      exact rw_iret X dX9_countResult_39 hP
    · have hf := ifn hf c31
      refine lv_iconst (v := 1) hx hb dX9_countResult_34 (by decide) ?_
      refine lv_goto (tgt := 39) hx hb dX9_countResult_35 (by decide) ?_
      cases hf
      exact rw_iret X dX9_countResult_39 hP
  · have hf := ifn hf c2
    refine lv_iload_n hx hb dX9_countResult_5 rfl (hl.at 2 rfl) ?_
    cases hf
    exact rw_iret X dX9_countResult_6 hP
theorem dX9_goOn_0 : decode cX9_goOn 0 = .ok (.aload_n 1, 1) := by decide +kernel
theorem dX9_goOn_1 : decode cX9_goOn 1 = .ok (.getfield 113, 3) := by decide +kernel
theorem dX9_goOn_4 : decode cX9_goOn 4 = .ok (.tableswitch 105 4 11 #[48, 57, 48, 57, 66, 76, 89, 97], 48) := by decide +kernel
theorem dX9_goOn_52 : decode cX9_goOn 52 = .ok (.aload_n 0, 1) := by decide +kernel
theorem dX9_goOn_53 : decode cX9_goOn 53 = .ok (.aload_n 1, 1) := by decide +kernel
theorem dX9_goOn_54 : decode cX9_goOn 54 = .ok (.aload_n 2, 1) := by decide +kernel
theorem dX9_goOn_55 : decode cX9_goOn 55 = .ok (.iload_n 3, 1) := by decide +kernel
theorem dX9_goOn_56 : decode cX9_goOn 56 = .ok (.iconst 2, 1) := by decide +kernel
theorem dX9_goOn_57 : decode cX9_goOn 57 = .ok (.invokevirtual 166, 3) := by decide +kernel
theorem dX9_goOn_60 : decode cX9_goOn 60 = .ok (.ireturn, 1) := by decide +kernel
theorem dX9_goOn_61 : decode cX9_goOn 61 = .ok (.aload_n 0, 1) := by decide +kernel
theorem dX9_goOn_62 : decode cX9_goOn 62 = .ok (.aload_n 1, 1) := by decide +kernel
theorem dX9_goOn_63 : decode cX9_goOn 63 = .ok (.aload_n 2, 1) := by decide +kernel
theorem dX9_goOn_64 : decode cX9_goOn 64 = .ok (.iload_n 3, 1) := by decide +kernel
theorem dX9_goOn_65 : decode cX9_goOn 65 = .ok (.iconst 3, 1) := by decide +kernel
theorem dX9_goOn_66 : decode cX9_goOn 66 = .ok (.invokevirtual 166, 3) := by decide +kernel
theorem dX9_goOn_69 : decode cX9_goOn 69 = .ok (.ireturn, 1) := by decide +kernel
theorem dX9_goOn_70 : decode cX9_goOn 70 = .ok (.aload_n 0, 1) := by decide +kernel
theorem dX9_goOn_71 : decode cX9_goOn 71 = .ok (.aload_n 1, 1) := by decide +kernel
theorem dX9_goOn_72 : decode cX9_goOn 72 = .ok (.aload_n 2, 1) := by decide +kernel
theorem dX9_goOn_73 : decode cX9_goOn 73 = .ok (.getfield 159, 3) := by decide +kernel
theorem dX9_goOn_76 : decode cX9_goOn 76 = .ok (.invokevirtual 136, 3) := by decide +kernel
theorem dX9_goOn_79 : decode cX9_goOn 79 = .ok (.ireturn, 1) := by decide +kernel
theorem dX9_goOn_80 : decode cX9_goOn 80 = .ok (.iload_n 3, 1) := by decide +kernel
theorem dX9_goOn_81 : decode cX9_goOn 81 = .ok (.iconst 1, 1) := by decide +kernel
theorem dX9_goOn_82 : decode cX9_goOn 82 = .ok (.if_icmp .ne 7, 3) := by decide +kernel
theorem dX9_goOn_85 : decode cX9_goOn 85 = .ok (.iconst 1, 1) := by decide +kernel
theorem dX9_goOn_86 : decode cX9_goOn 86 = .ok (.goto 6, 3) := by decide +kernel
theorem dX9_goOn_89 : decode cX9_goOn 89 = .ok (.iconst 5, 1) := by decide +kernel
theorem dX9_goOn_90 : decode cX9_goOn 90 = .ok (.iload_n 3, 1) := by decide +kernel
theorem dX9_goOn_91 : decode cX9_goOn 91 = .ok (.isub, 1) := by decide +kernel
theorem dX9_goOn_92 : decode cX9_goOn 92 = .ok (.ireturn, 1) := by decide +kernel
theorem dX9_goOn_93 : decode cX9_goOn 93 = .ok (.aload_n 0, 1) := by decide +kernel
theorem dX9_goOn_94 : decode cX9_goOn 94 = .ok (.aload_n 1, 1) := by decide +kernel
theorem dX9_goOn_95 : decode cX9_goOn 95 = .ok (.iload_n 3, 1) := by decide +kernel
theorem dX9_goOn_96 : decode cX9_goOn 96 = .ok (.iconst 2, 1) := by decide +kernel
theorem dX9_goOn_97 : decode cX9_goOn 97 = .ok (.invokevirtual 170, 3) := by decide +kernel
theorem dX9_goOn_100 : decode cX9_goOn 100 = .ok (.ireturn, 1) := by decide +kernel
theorem dX9_goOn_101 : decode cX9_goOn 101 = .ok (.aload_n 0, 1) := by decide +kernel
theorem dX9_goOn_102 : decode cX9_goOn 102 = .ok (.aload_n 1, 1) := by decide +kernel
theorem dX9_goOn_103 : decode cX9_goOn 103 = .ok (.iload_n 3, 1) := by decide +kernel
theorem dX9_goOn_104 : decode cX9_goOn 104 = .ok (.iconst 3, 1) := by decide +kernel
theorem dX9_goOn_105 : decode cX9_goOn 105 = .ok (.invokevirtual 170, 3) := by decide +kernel
theorem dX9_goOn_108 : decode cX9_goOn 108 = .ok (.ireturn, 1) := by decide +kernel
theorem dX9_goOn_109 : decode cX9_goOn 109 = .ok (.iload_n 3, 1) := by decide +kernel
theorem dX9_goOn_110 : decode cX9_goOn 110 = .ok (.ireturn, 1) := by decide +kernel
theorem pyX9_goOn : PY yX9_goOn 3 := ⟨by decide +kernel, by decide +kernel, by decide +kernel⟩
def fX9_goOn_52 (Y : LY) (S : HS) (l0 : Option Nat) (l1 : Option Nat) (l2 : Option Nat) (l3 : Int32) : Option (HS × Int32) :=
  (rcv Y 9 l0).bind fun _ =>
  (fX9_goOnInList Y S l0 l1 l2 l3 2).bind fun q57 =>
  some (q57.1, q57.2)
set_option maxRecDepth 100000 in
set_option maxHeartbeats 4000000 in
theorem wX9_goOn_52 {p : Program} {l : Launch} {e : Env} {R : Room} {s : State} {m : MethodId} {args : Array Value} {below : List Frame} {meth : Method} {c : Code} {G : GG} {Y : LY} {res : HS × Int32} (X : Cx p R s m args meth c RX9 cX9_goOn 4 5 123 (fun q => q ∈ Y.1) G (some .int)) : ∀ (S : HS) (l0 : Option Nat) (l1 : Option Nat) (l2 : Option Nat) (l3 : Int32), fX9_goOn_52 Y S l0 l1 l2 l3 = some res → ∀ (H : Heap) (locs : List Loc) (ls : Array Slot), HP (fun q => q ∈ Y.1) G Y s S H locs → LV ls 4 [(0, va_rf l0), (1, va_rf l1), (2, va_rf l2), (3, .int l3)] → W p l e R s m args below meth c H locs 0 0 (MQ below (QI G Y res.1 (some (.int res.2))) args s 0 0 (fun q => q ∈ Y.1)) (F0 m 52 ls []) := by
  have hx := X.1.1
  have hb := X.1.2.1
  intro S l0 l1 l2 l3 hf H locs ls hP hl
  unfold fX9_goOn_52 at hf
  refine rw_aload_n X dX9_goOn_52 rfl (hl.at 0 rfl) ?_
  refine rw_aload_n X dX9_goOn_53 rfl (hl.at 1 rfl) ?_
  refine rw_aload_n X dX9_goOn_54 rfl (hl.at 2 rfl) ?_
  refine lv_iload_n hx hb dX9_goOn_55 rfl (hl.at 3 rfl) ?_
  refine lv_iconst (v := 2) hx hb dX9_goOn_56 (by decide) ?_
  obtain ⟨u57, r57, hf⟩ := ob hf
  obtain ⟨q57, e57, hf⟩ := ob hf
  refine rw_callVi (As := [va_rf l1, va_rf l2, .int l3, .int 2]) X dX9_goOn_57 clX9_166 pyX9_goOnInList (mX9_goOnInList l e57) (by decide) r57 rfl hP rfl (catL c1n (Nat.le_of_ble_eq_true rfl)) hl.1.1 (fun H locs hP => ?_)
  cases hf
  exact rw_iret X dX9_goOn_60 hP
def fX9_goOn_61 (Y : LY) (S : HS) (l0 : Option Nat) (l1 : Option Nat) (l2 : Option Nat) (l3 : Int32) : Option (HS × Int32) :=
  (rcv Y 9 l0).bind fun _ =>
  (fX9_goOnInList Y S l0 l1 l2 l3 3).bind fun q66 =>
  some (q66.1, q66.2)
set_option maxRecDepth 100000 in
set_option maxHeartbeats 4000000 in
theorem wX9_goOn_61 {p : Program} {l : Launch} {e : Env} {R : Room} {s : State} {m : MethodId} {args : Array Value} {below : List Frame} {meth : Method} {c : Code} {G : GG} {Y : LY} {res : HS × Int32} (X : Cx p R s m args meth c RX9 cX9_goOn 4 5 123 (fun q => q ∈ Y.1) G (some .int)) : ∀ (S : HS) (l0 : Option Nat) (l1 : Option Nat) (l2 : Option Nat) (l3 : Int32), fX9_goOn_61 Y S l0 l1 l2 l3 = some res → ∀ (H : Heap) (locs : List Loc) (ls : Array Slot), HP (fun q => q ∈ Y.1) G Y s S H locs → LV ls 4 [(0, va_rf l0), (1, va_rf l1), (2, va_rf l2), (3, .int l3)] → W p l e R s m args below meth c H locs 0 0 (MQ below (QI G Y res.1 (some (.int res.2))) args s 0 0 (fun q => q ∈ Y.1)) (F0 m 61 ls []) := by
  have hx := X.1.1
  have hb := X.1.2.1
  intro S l0 l1 l2 l3 hf H locs ls hP hl
  unfold fX9_goOn_61 at hf
  refine rw_aload_n X dX9_goOn_61 rfl (hl.at 0 rfl) ?_
  refine rw_aload_n X dX9_goOn_62 rfl (hl.at 1 rfl) ?_
  refine rw_aload_n X dX9_goOn_63 rfl (hl.at 2 rfl) ?_
  refine lv_iload_n hx hb dX9_goOn_64 rfl (hl.at 3 rfl) ?_
  refine lv_iconst (v := 3) hx hb dX9_goOn_65 (by decide) ?_
  obtain ⟨u66, r66, hf⟩ := ob hf
  obtain ⟨q66, e66, hf⟩ := ob hf
  refine rw_callVi (As := [va_rf l1, va_rf l2, .int l3, .int 3]) X dX9_goOn_66 clX9_166 pyX9_goOnInList (mX9_goOnInList l e66) (by decide) r66 rfl hP rfl (catL c1n (Nat.le_of_ble_eq_true rfl)) hl.1.1 (fun H locs hP => ?_)
  cases hf
  exact rw_iret X dX9_goOn_69 hP
def fX9_goOn (Y : LY) (S : HS) (l0 : Option Nat) (l1 : Option Nat) (l2 : Option Nat) (l3 : Int32) : Option (HS × Int32) :=
  (gI Y 4 404 l1 S).bind fun v1 =>
  if v1 = 4 then
    fX9_goOn_52 Y S l0 l1 l2 l3
  else
  if v1 = 5 then
    fX9_goOn_61 Y S l0 l1 l2 l3
  else
  if v1 = 6 then
    fX9_goOn_52 Y S l0 l1 l2 l3
  else
  if v1 = 7 then
    fX9_goOn_61 Y S l0 l1 l2 l3
  else
  if v1 = 8 then
    (gR Y 4 412 l2 S).bind fun v73 =>
    (rcv Y 9 l0).bind fun _ =>
    (fX9_goOnInParallel Y S l0 l1 v73).bind fun q76 =>
    some (q76.1, q76.2)
  else
  if v1 = 9 then
    if l3 = 1 then
      some (S, 1)
    else
      some (S, (5 - l3))
  else
  if v1 = 10 then
    (rcv Y 9 l0).bind fun _ =>
    (fX9_countResult Y S l0 l1 l3 2).bind fun q97 =>
    some (q97.1, q97.2)
  else
  if v1 = 11 then
    (rcv Y 9 l0).bind fun _ =>
    (fX9_countResult Y S l0 l1 l3 3).bind fun q105 =>
    some (q105.1, q105.2)
  else
  some (S, l3)
set_option maxRecDepth 100000 in
set_option maxHeartbeats 4000000 in
theorem mX9_goOn (l : Launch) {G : GG} {Y : LY} {S : HS} {l0 : Option Nat} {l1 : Option Nat} {l2 : Option Nat} {l3 : Int32} {res : HS × Int32} (hf : fX9_goOn Y S l0 l1 l2 l3 = some res) : MM l yX9_goOn cX9_goOn 4 (some .int) 5 123 G Y S [va_rf l0, va_rf l1, va_rf l2, .int l3] res.1 (some (.int res.2)) := by
  refine mm_of2 (plainFor_of_name (by decide +kernel)) (Nat.le_of_ble_eq_true rfl) (c1c (cr _) (c1c (cr _) (c1c (cr _) (c1c (ci _) c1n)))) ?_
  intro p e R s m args below meth c X H locs ls hP hl
  have X : Cx p R s m args meth c RX9 cX9_goOn 4 5 123 (fun q => q ∈ Y.1) G (some .int) := X
  have hx := X.1.1
  have hb := X.1.2.1
  have hl : LV ls 4 [(0, va_rf l0), (1, va_rf l1), (2, va_rf l2), (3, .int l3)] := hl
  unfold fX9_goOn at hf
  refine rw_aload_n X dX9_goOn_0 rfl (hl.at 1 rfl) ?_
  obtain ⟨v1, e1, hf⟩ := ob hf
  refine rw_getI X dX9_goOn_1 fl9_113 e1 rfl hP ?_
  by_cases c4_0 : v1 = 4
  · have hf := ifp hf c4_0
    refine lv_tableIn (tgt := 52) hx hb dX9_goOn_4 (by rw [c4_0]; decide) (by rw [c4_0]; decide) (by rw [c4_0]; rfl) (by decide) ?_
    exact wX9_goOn_52 X S l0 l1 l2 l3 hf _ _ _ hP (hl.sub [0, 1, 2, 3] rfl)
  have hf := ifn hf c4_0
  by_cases c4_1 : v1 = 5
  · have hf := ifp hf c4_1
    refine lv_tableIn (tgt := 61) hx hb dX9_goOn_4 (by rw [c4_1]; decide) (by rw [c4_1]; decide) (by rw [c4_1]; rfl) (by decide) ?_
    exact wX9_goOn_61 X S l0 l1 l2 l3 hf _ _ _ hP (hl.sub [0, 1, 2, 3] rfl)
  have hf := ifn hf c4_1
  by_cases c4_2 : v1 = 6
  · have hf := ifp hf c4_2
    refine lv_tableIn (tgt := 52) hx hb dX9_goOn_4 (by rw [c4_2]; decide) (by rw [c4_2]; decide) (by rw [c4_2]; rfl) (by decide) ?_
    exact wX9_goOn_52 X S l0 l1 l2 l3 hf _ _ _ hP (hl.sub [0, 1, 2, 3] rfl)
  have hf := ifn hf c4_2
  by_cases c4_3 : v1 = 7
  · have hf := ifp hf c4_3
    refine lv_tableIn (tgt := 61) hx hb dX9_goOn_4 (by rw [c4_3]; decide) (by rw [c4_3]; decide) (by rw [c4_3]; rfl) (by decide) ?_
    exact wX9_goOn_61 X S l0 l1 l2 l3 hf _ _ _ hP (hl.sub [0, 1, 2, 3] rfl)
  have hf := ifn hf c4_3
  by_cases c4_4 : v1 = 8
  · have hf := ifp hf c4_4
    refine lv_tableIn (tgt := 70) hx hb dX9_goOn_4 (by rw [c4_4]; decide) (by rw [c4_4]; decide) (by rw [c4_4]; rfl) (by decide) ?_
    refine rw_aload_n X dX9_goOn_70 rfl (hl.at 0 rfl) ?_
    refine rw_aload_n X dX9_goOn_71 rfl (hl.at 1 rfl) ?_
    refine rw_aload_n X dX9_goOn_72 rfl (hl.at 2 rfl) ?_
    obtain ⟨v73, e73, hf⟩ := ob hf
    refine rw_getR X dX9_goOn_73 fl9_159 e73 rfl hP ?_
    obtain ⟨u76, r76, hf⟩ := ob hf
    obtain ⟨q76, e76, hf⟩ := ob hf
    refine rw_callVi (As := [va_rf l1, va_rf v73]) X dX9_goOn_76 clX9_136 pyX9_goOnInParallel (mX9_goOnInParallel l e76) (by decide) r76 rfl hP rfl (catL c1n (Nat.le_of_ble_eq_true rfl)) hl.1.1 (fun H locs hP => ?_)
    cases hf
    exact rw_iret X dX9_goOn_79 hP
  have hf := ifn hf c4_4
  by_cases c4_5 : v1 = 9
  · have hf := ifp hf c4_5
    refine lv_tableIn (tgt := 80) hx hb dX9_goOn_4 (by rw [c4_5]; decide) (by rw [c4_5]; decide) (by rw [c4_5]; rfl) (by decide) ?_
    refine lv_iload_n hx hb dX9_goOn_80 rfl (hl.at 3 rfl) ?_
    refine lv_iconst (v := 1) hx hb dX9_goOn_81 (by decide) ?_
    refine lv_icmp_ne hx hb (tgt := 89) dX9_goOn_82 (by decide) (fun c82 => ?_) (fun c82 => ?_)
    · have hf := ifn hf c82
      refine lv_iconst (v := 5) hx hb dX9_goOn_89 (by decide) ?_
      refine lv_iload_n hx hb dX9_goOn_90 rfl (hl.at 3 rfl) ?_
      refine lv_isub hx hb dX9_goOn_91 ?_
      cases hf
      exact rw_iret X dX9_goOn_92 hP
    · have hf := ifp hf c82
      refine lv_iconst (v := 1) hx hb dX9_goOn_85 (by decide) ?_
      refine lv_goto (tgt := 92) hx hb dX9_goOn_86 (by decide) ?_
      cases hf
      exact rw_iret X dX9_goOn_92 hP
  have hf := ifn hf c4_5
  by_cases c4_6 : v1 = 10
  · have hf := ifp hf c4_6
    refine lv_tableIn (tgt := 93) hx hb dX9_goOn_4 (by rw [c4_6]; decide) (by rw [c4_6]; decide) (by rw [c4_6]; rfl) (by decide) ?_
    refine rw_aload_n X dX9_goOn_93 rfl (hl.at 0 rfl) ?_
    refine rw_aload_n X dX9_goOn_94 rfl (hl.at 1 rfl) ?_
    refine lv_iload_n hx hb dX9_goOn_95 rfl (hl.at 3 rfl) ?_
    refine lv_iconst (v := 2) hx hb dX9_goOn_96 (by decide) ?_
    obtain ⟨u97, r97, hf⟩ := ob hf
    obtain ⟨q97, e97, hf⟩ := ob hf
    refine rw_callVi (As := [va_rf l1, .int l3, .int 2]) X dX9_goOn_97 clX9_170 pyX9_countResult (mX9_countResult l e97) (by decide) r97 rfl hP rfl (catL c1n (Nat.le_of_ble_eq_true rfl)) hl.1.1 (fun H locs hP => ?_)
    cases hf
    exact rw_iret X dX9_goOn_100 hP
  have hf := ifn hf c4_6
  by_cases c4_7 : v1 = 11
  · have hf := ifp hf c4_7
    refine lv_tableIn (tgt := 101) hx hb dX9_goOn_4 (by rw [c4_7]; decide) (by rw [c4_7]; decide) (by rw [c4_7]; rfl) (by decide) ?_
    refine rw_aload_n X dX9_goOn_101 rfl (hl.at 0 rfl) ?_
    refine rw_aload_n X dX9_goOn_102 rfl (hl.at 1 rfl) ?_
    refine lv_iload_n hx hb dX9_goOn_103 rfl (hl.at 3 rfl) ?_
    refine lv_iconst (v := 3) hx hb dX9_goOn_104 (by decide) ?_
    obtain ⟨u105, r105, hf⟩ := ob hf
    obtain ⟨q105, e105, hf⟩ := ob hf
    refine rw_callVi (As := [va_rf l1, .int l3, .int 3]) X dX9_goOn_105 clX9_170 pyX9_countResult (mX9_countResult l e105) (by decide) r105 rfl hP rfl (catL c1n (Nat.le_of_ble_eq_true rfl)) hl.1.1 (fun H locs hP => ?_)
    cases hf
    exact rw_iret X dX9_goOn_108 hP
  have hf := ifn hf c4_7
  have t4_0 := tsw (k := 4) (v := 4) (by decide) c4_0
  have t4_1 := tsw (k := 5) (v := 5) (by decide) c4_1
  have t4_2 := tsw (k := 6) (v := 6) (by decide) c4_2
  have t4_3 := tsw (k := 7) (v := 7) (by decide) c4_3
  have t4_4 := tsw (k := 8) (v := 8) (by decide) c4_4
  have t4_5 := tsw (k := 9) (v := 9) (by decide) c4_5
  have t4_6 := tsw (k := 10) (v := 10) (by decide) c4_6
  have t4_7 := tsw (k := 11) (v := 11) (by decide) c4_7
  refine lv_tableOut (tgt := 109) hx hb dX9_goOn_4 (by omega) (by decide) ?_
  refine lv_iload_n hx hb dX9_goOn_109 rfl (hl.at 3 rfl) ?_
  cases hf
  exact rw_iret X dX9_goOn_110 hP
theorem dX9_perform_0 : decode cX9_perform 0 = .ok (.aload_n 0, 1) := by decide +kernel
theorem dX9_perform_1 : decode cX9_perform 1 = .ok (.getfield 21, 3) := by decide +kernel
theorem dX9_perform_4 : decode cX9_perform 4 = .ok (.getfield 25, 3) := by decide +kernel
theorem dX9_perform_7 : decode cX9_perform 7 = .ok (.ifnonnull 7, 3) := by decide +kernel
theorem dX9_perform_10 : decode cX9_perform 10 = .ok (.aload_n 1, 1) := by decide +kernel
theorem dX9_perform_11 : decode cX9_perform 11 = .ok (.goto 10, 3) := by decide +kernel
theorem dX9_perform_14 : decode cX9_perform 14 = .ok (.aload_n 0, 1) := by decide +kernel
theorem dX9_perform_15 : decode cX9_perform 15 = .ok (.getfield 21, 3) := by decide +kernel
theorem dX9_perform_18 : decode cX9_perform 18 = .ok (.getfield 25, 3) := by decide +kernel
theorem dX9_perform_21 : decode cX9_perform 21 = .ok (.astore_n 3, 1) := by decide +kernel
theorem dX9_perform_22 : decode cX9_perform 22 = .ok (.iload_n 2, 1) := by decide +kernel
theorem dX9_perform_23 : decode cX9_perform 23 = .ok (.istore 4, 2) := by decide +kernel
theorem dX9_perform_25 : decode cX9_perform 25 = .ok (.iload 4, 2) := by decide +kernel
theorem dX9_perform_27 : decode cX9_perform 27 = .ok (.ifCond .le 118, 3) := by decide +kernel
theorem dX9_perform_30 : decode cX9_perform 30 = .ok (.aload_n 0, 1) := by decide +kernel
theorem dX9_perform_31 : decode cX9_perform 31 = .ok (.getfield 21, 3) := by decide +kernel
theorem dX9_perform_34 : decode cX9_perform 34 = .ok (.aconst_null, 1) := by decide +kernel
theorem dX9_perform_35 : decode cX9_perform 35 = .ok (.putfield 25, 3) := by decide +kernel
theorem dX9_perform_38 : decode cX9_perform 38 = .ok (.aload_n 0, 1) := by decide +kernel
theorem dX9_perform_39 : decode cX9_perform 39 = .ok (.aload_n 3, 1) := by decide +kernel
theorem dX9_perform_40 : decode cX9_perform 40 = .ok (.invokevirtual 29, 3) := by decide +kernel
theorem dX9_perform_43 : decode cX9_perform 43 = .ok (.istore 5, 2) := by decide +kernel
theorem dX9_perform_45 : decode cX9_perform 45 = .ok (.aload_n 3, 1) := by decide +kernel
theorem dX9_perform_46 : decode cX9_perform 46 = .ok (.astore 6, 2) := by decide +kernel
theorem dX9_perform_48 : decode cX9_perform 48 = .ok (.aload 6, 2) := by decide +kernel
theorem dX9_perform_50 : decode cX9_perform 50 = .ok (.ifnull 59, 3) := by decide +kernel
theorem dX9_perform_53 : decode cX9_perform 53 = .ok (.aload_n 0, 1) := by decide +kernel
theorem dX9_perform_54 : decode cX9_perform 54 = .ok (.getfield 21, 3) := by decide +kernel
theorem dX9_perform_57 : decode cX9_perform 57 = .ok (.getfield 25, 3) := by decide +kernel
theorem dX9_perform_60 : decode cX9_perform 60 = .ok (.ifnonnull 49, 3) := by decide +kernel
theorem dX9_perform_63 : decode cX9_perform 63 = .ok (.aload_n 0, 1) := by decide +kernel
theorem dX9_perform_64 : decode cX9_perform 64 = .ok (.aload 6, 2) := by decide +kernel
theorem dX9_perform_66 : decode cX9_perform 66 = .ok (.iload 5, 2) := by decide +kernel
theorem dX9_perform_68 : decode cX9_perform 68 = .ok (.invokevirtual 33, 3) := by decide +kernel
theorem dX9_perform_71 : decode cX9_perform 71 = .ok (.aload 6, 2) := by decide +kernel
theorem dX9_perform_73 : decode cX9_perform 73 = .ok (.getfield 37, 3) := by decide +kernel
theorem dX9_perform_76 : decode cX9_perform 76 = .ok (.ifnonnull 8, 3) := by decide +kernel
theorem dX9_perform_79 : decode cX9_perform 79 = .ok (.iload 5, 2) := by decide +kernel
theorem dX9_perform_81 : decode cX9_perform 81 = .ok (.goto 16, 3) := by decide +kernel
theorem dX9_perform_84 : decode cX9_perform 84 = .ok (.aload_n 0, 1) := by decide +kernel
theorem dX9_perform_85 : decode cX9_perform 85 = .ok (.aload 6, 2) := by decide +kernel
theorem dX9_perform_87 : decode cX9_perform 87 = .ok (.getfield 37, 3) := by decide +kernel
theorem dX9_perform_90 : decode cX9_perform 90 = .ok (.aload 6, 2) := by decide +kernel
theorem dX9_perform_92 : decode cX9_perform 92 = .ok (.iload 5, 2) := by decide +kernel
theorem dX9_perform_94 : decode cX9_perform 94 = .ok (.invokevirtual 42, 3) := by decide +kernel
theorem dX9_perform_97 : decode cX9_perform 97 = .ok (.istore 5, 2) := by decide +kernel
theorem dX9_perform_99 : decode cX9_perform 99 = .ok (.aload 6, 2) := by decide +kernel
theorem dX9_perform_101 : decode cX9_perform 101 = .ok (.getfield 37, 3) := by decide +kernel
theorem dX9_perform_104 : decode cX9_perform 104 = .ok (.astore 6, 2) := by decide +kernel
theorem dX9_perform_106 : decode cX9_perform 106 = .ok (.goto (-58), 3) := by decide +kernel
theorem dX9_perform_109 : decode cX9_perform 109 = .ok (.aload_n 0, 1) := by decide +kernel
theorem dX9_perform_110 : decode cX9_perform 110 = .ok (.getfield 21, 3) := by decide +kernel
theorem dX9_perform_113 : decode cX9_perform 113 = .ok (.getfield 25, 3) := by decide +kernel
theorem dX9_perform_116 : decode cX9_perform 116 = .ok (.ifnonnull 15, 3) := by decide +kernel
theorem dX9_perform_119 : decode cX9_perform 119 = .ok (.aload_n 0, 1) := by decide +kernel
theorem dX9_perform_120 : decode cX9_perform 120 = .ok (.getfield 21, 3) := by decide +kernel
theorem dX9_perform_123 : decode cX9_perform 123 = .ok (.iload 5, 2) := by decide +kernel
theorem dX9_perform_125 : decode cX9_perform 125 = .ok (.invokevirtual 46, 3) := by decide +kernel
theorem dX9_perform_128 : decode cX9_perform 128 = .ok (.iload 5, 2) := by decide +kernel
theorem dX9_perform_130 : decode cX9_perform 130 = .ok (.ireturn, 1) := by decide +kernel
theorem dX9_perform_131 : decode cX9_perform 131 = .ok (.aload_n 0, 1) := by decide +kernel
theorem dX9_perform_132 : decode cX9_perform 132 = .ok (.getfield 21, 3) := by decide +kernel
theorem dX9_perform_135 : decode cX9_perform 135 = .ok (.getfield 25, 3) := by decide +kernel
theorem dX9_perform_138 : decode cX9_perform 138 = .ok (.astore_n 3, 1) := by decide +kernel
theorem dX9_perform_139 : decode cX9_perform 139 = .ok (.iinc 4 (-1), 3) := by decide +kernel
theorem dX9_perform_142 : decode cX9_perform 142 = .ok (.goto (-117), 3) := by decide +kernel
theorem dX9_perform_145 : decode cX9_perform 145 = .ok (.aload_n 0, 1) := by decide +kernel
theorem dX9_perform_146 : decode cX9_perform 146 = .ok (.getfield 21, 3) := by decide +kernel
theorem dX9_perform_149 : decode cX9_perform 149 = .ok (.dup, 1) := by decide +kernel
theorem dX9_perform_150 : decode cX9_perform 150 = .ok (.getfield 50, 3) := by decide +kernel
theorem dX9_perform_153 : decode cX9_perform 153 = .ok (.iconst 1, 1) := by decide +kernel
theorem dX9_perform_154 : decode cX9_perform 154 = .ok (.iadd, 1) := by decide +kernel
theorem dX9_perform_155 : decode cX9_perform 155 = .ok (.putfield 50, 3) := by decide +kernel
theorem dX9_perform_158 : decode cX9_perform 158 = .ok (.iconst 5, 1) := by decide +kernel
theorem dX9_perform_159 : decode cX9_perform 159 = .ok (.ireturn, 1) := by decide +kernel
theorem pyX9_perform : PY yX9_perform 2 := ⟨by decide +kernel, by decide +kernel, by decide +kernel⟩
def fX9_perform_109 (k25 : HS → Option Nat → Option Nat → Int32 → Option (HS × Int32)) (Y : LY) (S : HS) (l0 : Option Nat) (l4 : Int32) (l5 : Int32) : Option (HS × Int32) :=
  (gR Y 9 901 l0 S).bind fun v110 =>
  (gR Y 2 200 v110 S).bind fun v113 =>
  if v113 = none then
    (gR Y 9 901 l0 S).bind fun v120 =>
    (rcv Y 2 v120).bind fun _ =>
    (fX2_endTick Y S v120 l5).bind fun S125 =>
    some (S125, l5)
  else
    (gR Y 9 901 l0 S).bind fun v132 =>
    (gR Y 2 200 v132 S).bind fun v135 =>
    k25 S l0 v135 (l4 + (-1))
set_option maxRecDepth 100000 in
set_option maxHeartbeats 4000000 in
theorem wX9_perform_109 {p : Program} {l : Launch} {e : Env} {R : Room} {s : State} {m : MethodId} {args : Array Value} {below : List Frame} {meth : Method} {c : Code} {G : GG} {Y : LY} {res : HS × Int32} (X : Cx p R s m args meth c RX9 cX9_perform 7 6 146 (fun q => q ∈ Y.1) G (some .int)) {k25 : HS → Option Nat → Option Nat → Int32 → Option (HS × Int32)} (hk25 : ∀ (S : HS) (l0 : Option Nat) (l3 : Option Nat) (l4 : Int32), k25 S l0 l3 l4 = some res → ∀ (H : Heap) (locs : List Loc) (ls : Array Slot), HP (fun q => q ∈ Y.1) G Y s S H locs → LV ls 7 [(0, va_rf l0), (3, va_rf l3), (4, .int l4)] → W p l e R s m args below meth c H locs 0 0 (MQ below (QI G Y res.1 (some (.int res.2))) args s 0 0 (fun q => q ∈ Y.1)) (F0 m 25 ls [])) : ∀ (S : HS) (l0 : Option Nat) (l4 : Int32) (l5 : Int32), fX9_perform_109 k25 Y S l0 l4 l5 = some res → ∀ (H : Heap) (locs : List Loc) (ls : Array Slot), HP (fun q => q ∈ Y.1) G Y s S H locs → LV ls 7 [(0, va_rf l0), (4, .int l4), (5, .int l5)] → W p l e R s m args below meth c H locs 0 0 (MQ below (QI G Y res.1 (some (.int res.2))) args s 0 0 (fun q => q ∈ Y.1)) (F0 m 109 ls []) := by
  have hx := X.1.1
  have hb := X.1.2.1
  intro S l0 l4 l5 hf H locs ls hP hl
  unfold fX9_perform_109 at hf
  refine rw_aload_n X dX9_perform_109 rfl (hl.at 0 rfl) ?_
  obtain ⟨v110, e110, hf⟩ := ob hf
  refine rw_getR X dX9_perform_110 fl9_21 e110 rfl hP ?_
  obtain ⟨v113, e113, hf⟩ := ob hf
  refine rw_getR X dX9_perform_113 fl9_25 e113 rfl hP ?_
  refine rw_ifnonnull X (tgt := 131) dX9_perform_116 (by decide) (fun c116 => ?_) (fun c116 => ?_)
  · have hf := ifn hf c116
    refine rw_aload_n X dX9_perform_131 rfl (hl.at 0 rfl) ?_
    obtain ⟨v132, e132, hf⟩ := ob hf
    refine rw_getR X dX9_perform_132 fl9_21 e132 rfl hP ?_
    obtain ⟨v135, e135, hf⟩ := ob hf
    refine rw_getR X dX9_perform_135 fl9_25 e135 rfl hP ?_
    refine rv_astore_n X dX9_perform_138 rfl hl (by decide) rfl (fun ls hl => ?_)
    have hl : LV ls 7 [(3, va_rf v135), (0, va_rf l0), (4, .int l4), (5, .int l5)] := hl
    refine rv_iinc (k := 2) (d := (-1)) X dX9_perform_139 hl rfl (by decide) (by decide) rfl (fun ls hl => ?_)
    have hl : LV ls 7 [(4, .int (l4 + (-1))), (3, va_rf v135), (0, va_rf l0), (5, .int l5)] := hl
    refine lv_goto (tgt := 25) hx hb dX9_perform_142 (by decide) ?_
    exact hk25 S l0 v135 (l4 + (-1)) hf _ _ _ hP (hl.sub [2, 1, 0] rfl)
  · have hf := ifp hf c116
    refine rw_aload_n X dX9_perform_119 rfl (hl.at 0 rfl) ?_
    obtain ⟨v120, e120, hf⟩ := ob hf
    refine rw_getR X dX9_perform_120 fl9_21 e120 rfl hP ?_
    refine lv_iload hx hb dX9_perform_123 (hl.at 2 rfl) ?_
    obtain ⟨u125, r125, hf⟩ := ob hf
    obtain ⟨S125, e125, hf⟩ := ob hf
    refine rw_callVv (As := [.int l5]) X dX9_perform_125 clX9_46 pyX2_endTick (mX2_endTick l e125) (by decide) r125 rfl hP rfl (catL c1n (Nat.le_of_ble_eq_true rfl)) hl.1.1 (fun H locs hP => ?_)
    refine lv_iload hx hb dX9_perform_128 (hl.at 2 rfl) ?_
    cases hf
    exact rw_iret X dX9_perform_130 hP
def fX9_perform_48 (k25 : HS → Option Nat → Option Nat → Int32 → Option (HS × Int32)) (Y : LY) : Nat → HS → Option Nat → Int32 → Int32 → Option Nat → Option (HS × Int32)
  | 0, _, _, _, _, _ => none
  | n + 1, S, l0, l4, l5, l6 =>
    if l6 = none then
      fX9_perform_109 k25 Y S l0 l4 l5
    else
      (gR Y 9 901 l0 S).bind fun v54 =>
      (gR Y 2 200 v54 S).bind fun v57 =>
      if v57 = none then
        (rcv Y 9 l0).bind fun _ =>
        (fX9_endVisit Y S l0 l6 l5).bind fun S68 =>
        (gR Y 4 409 l6 S68).bind fun v73 =>
        if v73 = none then
          (gR Y 4 409 l6 S68).bind fun v101 =>
          fX9_perform_48 k25 Y n S68 l0 l4 l5 v101
        else
          (gR Y 4 409 l6 S68).bind fun v87 =>
          (rcv Y 9 l0).bind fun _ =>
          (fX9_goOn Y S68 l0 v87 l6 l5).bind fun q94 =>
          (gR Y 4 409 l6 q94.1).bind fun v101 =>
          fX9_perform_48 k25 Y n q94.1 l0 l4 q94.2 v101
      else
        fX9_perform_109 k25 Y S l0 l4 l5
set_option maxRecDepth 100000 in
set_option maxHeartbeats 4000000 in
theorem wX9_perform_48 {p : Program} {l : Launch} {e : Env} {R : Room} {s : State} {m : MethodId} {args : Array Value} {below : List Frame} {meth : Method} {c : Code} {G : GG} {Y : LY} {res : HS × Int32} (X : Cx p R s m args meth c RX9 cX9_perform 7 6 146 (fun q => q ∈ Y.1) G (some .int)) {k25 : HS → Option Nat → Option Nat → Int32 → Option (HS × Int32)} (hk25 : ∀ (S : HS) (l0 : Option Nat) (l3 : Option Nat) (l4 : Int32), k25 S l0 l3 l4 = some res → ∀ (H : Heap) (locs : List Loc) (ls : Array Slot), HP (fun q => q ∈ Y.1) G Y s S H locs → LV ls 7 [(0, va_rf l0), (3, va_rf l3), (4, .int l4)] → W p l e R s m args below meth c H locs 0 0 (MQ below (QI G Y res.1 (some (.int res.2))) args s 0 0 (fun q => q ∈ Y.1)) (F0 m 25 ls [])) : ∀ (n : Nat) (S : HS) (l0 : Option Nat) (l4 : Int32) (l5 : Int32) (l6 : Option Nat), fX9_perform_48 k25 Y n S l0 l4 l5 l6 = some res → ∀ (H : Heap) (locs : List Loc) (ls : Array Slot), HP (fun q => q ∈ Y.1) G Y s S H locs → LV ls 7 [(0, va_rf l0), (4, .int l4), (5, .int l5), (6, va_rf l6)] → W p l e R s m args below meth c H locs 0 0 (MQ below (QI G Y res.1 (some (.int res.2))) args s 0 0 (fun q => q ∈ Y.1)) (F0 m 48 ls []) := by
  have hx := X.1.1
  have hb := X.1.2.1
  intro n
  induction n with
  | zero =>
    intro S l0 l4 l5 l6 hf
    cases hf
  | succ n ih =>
    intro S l0 l4 l5 l6 hf H locs ls hP hl
    rw [fX9_perform_48] at hf
    refine rw_aload X dX9_perform_48 (hl.at 3 rfl) ?_
    refine rw_ifnull X (tgt := 109) dX9_perform_50 (by decide) (fun c50 => ?_) (fun c50 => ?_)
    · have hf := ifp hf c50
      exact wX9_perform_109 X hk25 S l0 l4 l5 hf _ _ _ hP (hl.sub [0, 1, 2] rfl)
    · have hf := ifn hf c50
      refine rw_aload_n X dX9_perform_53 rfl (hl.at 0 rfl) ?_
      obtain ⟨v54, e54, hf⟩ := ob hf
      refine rw_getR X dX9_perform_54 fl9_21 e54 rfl hP ?_
      obtain ⟨v57, e57, hf⟩ := ob hf
      refine rw_getR X dX9_perform_57 fl9_25 e57 rfl hP ?_
      refine rw_ifnonnull X (tgt := 109) dX9_perform_60 (by decide) (fun c60 => ?_) (fun c60 => ?_)
      · have hf := ifn hf c60
        exact wX9_perform_109 X hk25 S l0 l4 l5 hf _ _ _ hP (hl.sub [0, 1, 2] rfl)
      · have hf := ifp hf c60
        refine rw_aload_n X dX9_perform_63 rfl (hl.at 0 rfl) ?_
        refine rw_aload X dX9_perform_64 (hl.at 3 rfl) ?_
        refine lv_iload hx hb dX9_perform_66 (hl.at 2 rfl) ?_
        obtain ⟨u68, r68, hf⟩ := ob hf
        obtain ⟨S68, e68, hf⟩ := ob hf
        refine rw_callVv (As := [va_rf l6, .int l5]) X dX9_perform_68 clX9_33 pyX9_endVisit (mX9_endVisit l e68) (by decide) r68 rfl hP rfl (catL c1n (Nat.le_of_ble_eq_true rfl)) hl.1.1 (fun H locs hP => ?_)
        refine rw_aload X dX9_perform_71 (hl.at 3 rfl) ?_
        obtain ⟨v73, e73, hf⟩ := ob hf
        refine rw_getR X dX9_perform_73 fl9_37 e73 rfl hP ?_
        refine rw_ifnonnull X (tgt := 84) dX9_perform_76 (by decide) (fun c76 => ?_) (fun c76 => ?_)
        · have hf := ifn hf c76
          refine rw_aload_n X dX9_perform_84 rfl (hl.at 0 rfl) ?_
          refine rw_aload X dX9_perform_85 (hl.at 3 rfl) ?_
          obtain ⟨v87, e87, hf⟩ := ob hf
          refine rw_getR X dX9_perform_87 fl9_37 e87 rfl hP ?_
          refine rw_aload X dX9_perform_90 (hl.at 3 rfl) ?_
          refine lv_iload hx hb dX9_perform_92 (hl.at 2 rfl) ?_
          obtain ⟨u94, r94, hf⟩ := ob hf
          obtain ⟨q94, e94, hf⟩ := ob hf
          refine rw_callVi (As := [va_rf v87, va_rf l6, .int l5]) X dX9_perform_94 clX9_42 pyX9_goOn (mX9_goOn l e94) (by decide) r94 rfl hP rfl (catL c1n (Nat.le_of_ble_eq_true rfl)) hl.1.1 (fun H locs hP => ?_)
          refine rv_istore X dX9_perform_97 hl (by decide) rfl (fun ls hl => ?_)
          have hl : LV ls 7 [(5, .int q94.2), (0, va_rf l0), (4, .int l4), (6, va_rf l6)] := hl
          refine rw_aload X dX9_perform_99 (hl.at 3 rfl) ?_
          obtain ⟨v101, e101, hf⟩ := ob hf
          refine rw_getR X dX9_perform_101 fl9_37 e101 rfl hP ?_
          refine rv_astore X dX9_perform_104 hl (by decide) rfl (fun ls hl => ?_)
          have hl : LV ls 7 [(6, va_rf v101), (5, .int q94.2), (0, va_rf l0), (4, .int l4)] := hl
          refine lv_goto (tgt := 48) hx hb dX9_perform_106 (by decide) ?_
          exact ih q94.1 l0 l4 q94.2 v101 hf _ _ _ hP (hl.sub [2, 3, 1, 0] rfl)
        · have hf := ifp hf c76
          refine lv_iload hx hb dX9_perform_79 (hl.at 2 rfl) ?_
          refine lv_goto (tgt := 97) hx hb dX9_perform_81 (by decide) ?_
          refine rv_istore X dX9_perform_97 hl (by decide) rfl (fun ls hl => ?_)
          have hl : LV ls 7 [(5, .int l5), (0, va_rf l0), (4, .int l4), (6, va_rf l6)] := hl
          refine rw_aload X dX9_perform_99 (hl.at 3 rfl) ?_
          obtain ⟨v101, e101, hf⟩ := ob hf
          refine rw_getR X dX9_perform_101 fl9_37 e101 rfl hP ?_
          refine rv_astore X dX9_perform_104 hl (by decide) rfl (fun ls hl => ?_)
          have hl : LV ls 7 [(6, va_rf v101), (5, .int l5), (0, va_rf l0), (4, .int l4)] := hl
          refine lv_goto (tgt := 48) hx hb dX9_perform_106 (by decide) ?_
          exact ih S68 l0 l4 l5 v101 hf _ _ _ hP (hl.sub [2, 3, 1, 0] rfl)
def fX9_perform_25 (Y : LY) : Nat → HS → Option Nat → Option Nat → Int32 → Option (HS × Int32)
  | 0, _, _, _, _ => none
  | n + 1, S, l0, l3, l4 =>
    if l4 ≤ 0 then
      (gR Y 9 901 l0 S).bind fun v146 =>
      (gI Y 2 207 v146 S).bind fun v150 =>
      (pI Y 2 207 v146 (v150 + 1) S).bind fun S155 =>
      some (S155, 5)
    else
      (gR Y 9 901 l0 S).bind fun v31 =>
      (pR Y 2 200 v31 none S).bind fun S35 =>
      (rcv Y 9 l0).bind fun _ =>
      (fX9_beginVisit Y S35 l0 l3).bind fun q40 =>
      fX9_perform_48 (fX9_perform_25 Y n) Y FU q40.1 l0 l4 q40.2 l3
set_option maxRecDepth 100000 in
set_option maxHeartbeats 4000000 in
theorem wX9_perform_25 {p : Program} {l : Launch} {e : Env} {R : Room} {s : State} {m : MethodId} {args : Array Value} {below : List Frame} {meth : Method} {c : Code} {G : GG} {Y : LY} {res : HS × Int32} (X : Cx p R s m args meth c RX9 cX9_perform 7 6 146 (fun q => q ∈ Y.1) G (some .int)) : ∀ (n : Nat) (S : HS) (l0 : Option Nat) (l3 : Option Nat) (l4 : Int32), fX9_perform_25 Y n S l0 l3 l4 = some res → ∀ (H : Heap) (locs : List Loc) (ls : Array Slot), HP (fun q => q ∈ Y.1) G Y s S H locs → LV ls 7 [(0, va_rf l0), (3, va_rf l3), (4, .int l4)] → W p l e R s m args below meth c H locs 0 0 (MQ below (QI G Y res.1 (some (.int res.2))) args s 0 0 (fun q => q ∈ Y.1)) (F0 m 25 ls []) := by
  have hx := X.1.1
  have hb := X.1.2.1
  intro n
  induction n with
  | zero =>
    intro S l0 l3 l4 hf
    cases hf
  | succ n ih =>
    intro S l0 l3 l4 hf H locs ls hP hl
    rw [fX9_perform_25] at hf
    refine lv_iload hx hb dX9_perform_25 (hl.at 2 rfl) ?_
    refine lv_if_le hx hb (tgt := 145) dX9_perform_27 (by decide) (fun c27 => ?_) (fun c27 => ?_)
    · have hf := ifp hf c27
      refine rw_aload_n X dX9_perform_145 rfl (hl.at 0 rfl) ?_
      obtain ⟨v146, e146, hf⟩ := ob hf
      refine rw_getR X dX9_perform_146 fl9_21 e146 rfl hP ?_
      refine lv_dup hx hb dX9_perform_149 (cr _) ?_
      obtain ⟨v150, e150, hf⟩ := ob hf
      refine rw_getI X dX9_perform_150 fl9_50 e150 rfl hP ?_
      refine lv_iconst (v := 1) hx hb dX9_perform_153 (by decide) ?_
      refine lv_iadd hx hb dX9_perform_154 ?_
      obtain ⟨S155, e155, hf⟩ := ob hf
      refine rw_putI X dX9_perform_155 fl9_50 fw2_7 e155 rfl hP (fun H locs hP => ?_)
      refine lv_iconst (v := 5) hx hb dX9_perform_158 (by decide) ?_
      cases hf
      exact rw_iret X dX9_perform_159 hP
    · have hf := ifn hf c27
      refine rw_aload_n X dX9_perform_30 rfl (hl.at 0 rfl) ?_
      obtain ⟨v31, e31, hf⟩ := ob hf
      refine rw_getR X dX9_perform_31 fl9_21 e31 rfl hP ?_
      refine lv_null hx hb dX9_perform_34 ?_
      refine W.eq (g2 := F0 m 35 ls (va_rf none :: (va_rf v31 :: []))) rfl ?_
      obtain ⟨S35, e35, hf⟩ := ob hf
      refine rw_putR X dX9_perform_35 fl9_25 fw2_0 e35 rfl hP (fun H locs hP => ?_)
      refine rw_aload_n X dX9_perform_38 rfl (hl.at 0 rfl) ?_
      refine rw_aload_n X dX9_perform_39 rfl (hl.at 1 rfl) ?_
      obtain ⟨u40, r40, hf⟩ := ob hf
      obtain ⟨q40, e40, hf⟩ := ob hf
      refine rw_callVi (As := [va_rf l3]) X dX9_perform_40 clX9_29 pyX9_beginVisit (mX9_beginVisit l e40) (by decide) r40 rfl hP rfl (catL c1n (Nat.le_of_ble_eq_true rfl)) hl.1.1 (fun H locs hP => ?_)
      refine rv_istore X dX9_perform_43 hl (by decide) rfl (fun ls hl => ?_)
      have hl : LV ls 7 [(5, .int q40.2), (0, va_rf l0), (3, va_rf l3), (4, .int l4)] := hl
      refine rw_aload_n X dX9_perform_45 rfl (hl.at 2 rfl) ?_
      refine rv_astore X dX9_perform_46 hl (by decide) rfl (fun ls hl => ?_)
      have hl : LV ls 7 [(6, va_rf l3), (5, .int q40.2), (0, va_rf l0), (3, va_rf l3), (4, .int l4)] := hl
      exact wX9_perform_48 X ih FU q40.1 l0 l4 q40.2 l3 hf _ _ _ hP (hl.sub [2, 4, 1, 0] rfl)
def fX9_perform (Y : LY) (S : HS) (l0 : Option Nat) (l1 : Option Nat) (l2 : Int32) : Option (HS × Int32) :=
  (gR Y 9 901 l0 S).bind fun v1 =>
  (gR Y 2 200 v1 S).bind fun v4 =>
  if v4 = none then
    fX9_perform_25 Y FU S l0 l1 l2
  else
    (gR Y 9 901 l0 S).bind fun v15 =>
    (gR Y 2 200 v15 S).bind fun v18 =>
    fX9_perform_25 Y FU S l0 v18 l2
set_option maxRecDepth 100000 in
set_option maxHeartbeats 4000000 in
theorem mX9_perform (l : Launch) {G : GG} {Y : LY} {S : HS} {l0 : Option Nat} {l1 : Option Nat} {l2 : Int32} {res : HS × Int32} (hf : fX9_perform Y S l0 l1 l2 = some res) : MM l yX9_perform cX9_perform 7 (some .int) 6 146 G Y S [va_rf l0, va_rf l1, .int l2] res.1 (some (.int res.2)) := by
  refine mm_of2 (plainFor_of_name (by decide +kernel)) (Nat.le_of_ble_eq_true rfl) (c1c (cr _) (c1c (cr _) (c1c (ci _) c1n))) ?_
  intro p e R s m args below meth c X H locs ls hP hl
  have X : Cx p R s m args meth c RX9 cX9_perform 7 6 146 (fun q => q ∈ Y.1) G (some .int) := X
  have hx := X.1.1
  have hb := X.1.2.1
  have hl : LV ls 7 [(0, va_rf l0), (1, va_rf l1), (2, .int l2)] := hl
  unfold fX9_perform at hf
  refine rw_aload_n X dX9_perform_0 rfl (hl.at 0 rfl) ?_
  obtain ⟨v1, e1, hf⟩ := ob hf
  refine rw_getR X dX9_perform_1 fl9_21 e1 rfl hP ?_
  obtain ⟨v4, e4, hf⟩ := ob hf
  refine rw_getR X dX9_perform_4 fl9_25 e4 rfl hP ?_
  refine rw_ifnonnull X (tgt := 14) dX9_perform_7 (by decide) (fun c7 => ?_) (fun c7 => ?_)
  · have hf := ifn hf c7
    refine rw_aload_n X dX9_perform_14 rfl (hl.at 0 rfl) ?_
    obtain ⟨v15, e15, hf⟩ := ob hf
    refine rw_getR X dX9_perform_15 fl9_21 e15 rfl hP ?_
    obtain ⟨v18, e18, hf⟩ := ob hf
    refine rw_getR X dX9_perform_18 fl9_25 e18 rfl hP ?_
    refine rv_astore_n X dX9_perform_21 rfl hl (by decide) rfl (fun ls hl => ?_)
    have hl : LV ls 7 [(3, va_rf v18), (0, va_rf l0), (1, va_rf l1), (2, .int l2)] := hl
    refine lv_iload_n hx hb dX9_perform_22 rfl (hl.at 3 rfl) ?_
    refine rv_istore X dX9_perform_23 hl (by decide) rfl (fun ls hl => ?_)
    have hl : LV ls 7 [(4, .int l2), (3, va_rf v18), (0, va_rf l0), (1, va_rf l1), (2, .int l2)] := hl
    exact wX9_perform_25 X FU S l0 v18 l2 hf _ _ _ hP (hl.sub [2, 1, 0] rfl)
  · have hf := ifp hf c7
    refine rw_aload_n X dX9_perform_10 rfl (hl.at 1 rfl) ?_
    refine lv_goto (tgt := 21) hx hb dX9_perform_11 (by decide) ?_
    refine rv_astore_n X dX9_perform_21 rfl hl (by decide) rfl (fun ls hl => ?_)
    have hl : LV ls 7 [(3, va_rf l1), (0, va_rf l0), (1, va_rf l1), (2, .int l2)] := hl
    refine lv_iload_n hx hb dX9_perform_22 rfl (hl.at 3 rfl) ?_
    refine rv_istore X dX9_perform_23 hl (by decide) rfl (fun ls hl => ?_)
    have hl : LV ls 7 [(4, .int l2), (3, va_rf l1), (0, va_rf l0), (1, va_rf l1), (2, .int l2)] := hl
    exact wX9_perform_25 X FU S l0 l1 l2 hf _ _ _ hP (hl.sub [2, 1, 0] rfl)
end
section
/-! printed by wip/whole/gen/gen_parts.py: 14.snapshot -/
theorem dX6_take_0 : decode cX6_take 0 = .ok (.iconst 0, 1) := by decide +kernel
theorem dX6_take_1 : decode cX6_take 1 = .ok (.istore 4, 2) := by decide +kernel
theorem dX6_take_3 : decode cX6_take 3 = .ok (.iload 4, 2) := by decide +kernel
theorem dX6_take_5 : decode cX6_take 5 = .ok (.aload_n 0, 1) := by decide +kernel
theorem dX6_take_6 : decode cX6_take 6 = .ok (.getfield 11, 3) := by decide +kernel
theorem dX6_take_9 : decode cX6_take 9 = .ok (.arraylength, 1) := by decide +kernel
theorem dX6_take_10 : decode cX6_take 10 = .ok (.if_icmp .ge 37, 3) := by decide +kernel
theorem dX6_take_13 : decode cX6_take 13 = .ok (.aload_n 1, 1) := by decide +kernel
theorem dX6_take_14 : decode cX6_take 14 = .ok (.iload 4, 2) := by decide +kernel
theorem dX6_take_16 : decode cX6_take 16 = .ok (.invokevirtual 32, 3) := by decide +kernel
theorem dX6_take_19 : decode cX6_take 19 = .ok (.astore 5, 2) := by decide +kernel
theorem dX6_take_21 : decode cX6_take 21 = .ok (.aload 5, 2) := by decide +kernel
theorem dX6_take_23 : decode cX6_take 23 = .ok (.ifnull 18, 3) := by decide +kernel
theorem dX6_take_26 : decode cX6_take 26 = .ok (.aload_n 0, 1) := by decide +kernel
theorem dX6_take_27 : decode cX6_take 27 = .ok (.getfield 11, 3) := by decide +kernel
theorem dX6_take_30 : decode cX6_take 30 = .ok (.iload 4, 2) := by decide +kernel
theorem dX6_take_32 : decode cX6_take 32 = .ok (.aaload, 1) := by decide +kernel
theorem dX6_take_33 : decode cX6_take 33 = .ok (.aload 5, 2) := by decide +kernel
theorem dX6_take_35 : decode cX6_take 35 = .ok (.getfield 38, 3) := by decide +kernel
theorem dX6_take_38 : decode cX6_take 38 = .ok (.invokevirtual 44, 3) := by decide +kernel
theorem dX6_take_41 : decode cX6_take 41 = .ok (.iinc 4 1, 3) := by decide +kernel
theorem dX6_take_44 : decode cX6_take 44 = .ok (.goto (-41), 3) := by decide +kernel
theorem dX6_take_47 : decode cX6_take 47 = .ok (.aload_n 0, 1) := by decide +kernel
theorem dX6_take_48 : decode cX6_take 48 = .ok (.getfield 20, 3) := by decide +kernel
theorem dX6_take_51 : decode cX6_take 51 = .ok (.aload_n 2, 1) := by decide +kernel
theorem dX6_take_52 : decode cX6_take 52 = .ok (.invokevirtual 48, 3) := by decide +kernel
theorem dX6_take_55 : decode cX6_take 55 = .ok (.aload_n 0, 1) := by decide +kernel
theorem dX6_take_56 : decode cX6_take 56 = .ok (.getfield 27, 3) := by decide +kernel
theorem dX6_take_59 : decode cX6_take 59 = .ok (.aload_n 3, 1) := by decide +kernel
theorem dX6_take_60 : decode cX6_take 60 = .ok (.invokevirtual 51, 3) := by decide +kernel
theorem dX6_take_63 : decode cX6_take 63 = .ok (.return_, 1) := by decide +kernel
theorem pyX6_take : PY yX6_take 3 := ⟨by decide +kernel, by decide +kernel, by decide +kernel⟩
def fX6_take_3 (Y : LY) : Nat → HS → Option Nat → Option Nat → Option Nat → Option Nat → Int32 → Option (HS)
  | 0, _, _, _, _, _, _ => none
  | n + 1, S, l0, l1, l2, l3, l4 =>
    (gR Y 6 600 l0 S).bind fun v6 =>
    (aL Y 15 v6).bind fun v9 =>
    if v9 ≤ l4 then
      (gR Y 6 601 l0 S).bind fun v48 =>
      (rcv Y 0 v48).bind fun _ =>
      (fX0_copyFrom Y S v48 l2).bind fun S52 =>
      (gR Y 6 602 l0 S52).bind fun v56 =>
      (rcv Y 2 v56).bind fun _ =>
      (fX2_copyFrom Y S52 v56 l3).bind fun S60 =>
      some S60
    else
      (rcv Y 8 l1).bind fun _ =>
      (fX8_nodeAt Y S l1 l4).bind fun v16 =>
      if v16 = none then
        fX6_take_3 Y n S l0 l1 l2 l3 (l4 + 1)
      else
        (gR Y 6 600 l0 S).bind fun v27 =>
        (gQ Y 15 v27 l4 S).bind fun v32 =>
        (gR Y 4 403 v16 S).bind fun v35 =>
        (rcv Y 3 v32).bind fun _ =>
        (fX3_copyFrom Y S v32 v35).bind fun S38 =>
        fX6_take_3 Y n S38 l0 l1 l2 l3 (l4 + 1)
set_option maxRecDepth 100000 in
set_option maxHeartbeats 4000000 in
theorem wX6_take_3 {p : Program} {l : Launch} {e : Env} {R : Room} {s : State} {m : MethodId} {args : Array Value} {below : List Frame} {meth : Method} {c : Code} {G : GG} {Y : LY} {res : HS} (X : Cx p R s m args meth c RX6 cX6_take 6 2 81 (fun q => q ∈ Y.1) G none) : ∀ (n : Nat) (S : HS) (l0 : Option Nat) (l1 : Option Nat) (l2 : Option Nat) (l3 : Option Nat) (l4 : Int32), fX6_take_3 Y n S l0 l1 l2 l3 l4 = some res → ∀ (H : Heap) (locs : List Loc) (ls : Array Slot), HP (fun q => q ∈ Y.1) G Y s S H locs → LV ls 6 [(0, va_rf l0), (1, va_rf l1), (2, va_rf l2), (3, va_rf l3), (4, .int l4)] → W p l e R s m args below meth c H locs 0 0 (MQ below (QI G Y res none) args s 0 0 (fun q => q ∈ Y.1)) (F0 m 3 ls []) := by
  have hx := X.1.1
  have hb := X.1.2.1
  intro n
  induction n with
  | zero =>
    intro S l0 l1 l2 l3 l4 hf
    cases hf
  | succ n ih =>
    intro S l0 l1 l2 l3 l4 hf H locs ls hP hl
    rw [fX6_take_3] at hf
    refine lv_iload hx hb dX6_take_3 (hl.at 4 rfl) ?_
    refine rw_aload_n X dX6_take_5 rfl (hl.at 0 rfl) ?_
    obtain ⟨v6, e6, hf⟩ := ob hf
    refine rw_getR X dX6_take_6 fl6_11 e6 rfl hP ?_
    obtain ⟨v9, e9, hf⟩ := ob hf
    refine rw_alen X (by decide) dX6_take_9 e9 hP ?_
    refine lv_icmp_ge hx hb (tgt := 47) dX6_take_10 (by decide) (fun c10 => ?_) (fun c10 => ?_)
    · have hf := ifp hf c10
      refine rw_aload_n X dX6_take_47 rfl (hl.at 0 rfl) ?_
      obtain ⟨v48, e48, hf⟩ := ob hf
      refine rw_getR X dX6_take_48 fl6_20 e48 rfl hP ?_
      refine rw_aload_n X dX6_take_51 rfl (hl.at 2 rfl) ?_
      obtain ⟨u52, r52, hf⟩ := ob hf
      obtain ⟨S52, e52, hf⟩ := ob hf
      refine rw_callVv (As := [va_rf l2]) X dX6_take_52 clX6_48 pyX0_copyFrom (mX0_copyFrom l e52) (by decide) r52 rfl hP rfl (catL c1n (Nat.le_of_ble_eq_true rfl)) hl.1.1 (fun H locs hP => ?_)
      refine rw_aload_n X dX6_take_55 rfl (hl.at 0 rfl) ?_
      obtain ⟨v56, e56, hf⟩ := ob hf
      refine rw_getR X dX6_take_56 fl6_27 e56 rfl hP ?_
      refine rw_aload_n X dX6_take_59 rfl (hl.at 3 rfl) ?_
      obtain ⟨u60, r60, hf⟩ := ob hf
      obtain ⟨S60, e60, hf⟩ := ob hf
      refine rw_callVv (As := [va_rf l3]) X dX6_take_60 clX6_51 pyX2_copyFrom (mX2_copyFrom l e60) (by decide) r60 rfl hP rfl (catL c1n (Nat.le_of_ble_eq_true rfl)) hl.1.1 (fun H locs hP => ?_)
      cases hf
      exact rw_vret X dX6_take_63 hP
    · have hf := ifn hf c10
      refine rw_aload_n X dX6_take_13 rfl (hl.at 1 rfl) ?_
      refine lv_iload hx hb dX6_take_14 (hl.at 4 rfl) ?_
      obtain ⟨u16, r16, hf⟩ := ob hf
      obtain ⟨v16, e16, hf⟩ := ob hf
      refine rw_callVr (As := [.int l4]) X dX6_take_16 clX6_32 pyX8_nodeAt (mX8_nodeAt l e16) (by decide) r16 rfl hP rfl (catL c1n (Nat.le_of_ble_eq_true rfl)) hl.1.1 (fun H locs hP => ?_)
      refine rv_astore X dX6_take_19 hl (by decide) rfl (fun ls hl => ?_)
      have hl : LV ls 6 [(5, va_rf v16), (0, va_rf l0), (1, va_rf l1), (2, va_rf l2), (3, va_rf l3), (4, .int l4)] := hl
      refine rw_aload X dX6_take_21 (hl.at 0 rfl) ?_
      refine rw_ifnull X (tgt := 41) dX6_take_23 (by decide) (fun c23 => ?_) (fun c23 => ?_)
      · have hf := ifp hf c23
        refine rv_iinc (k := 5) (d := 1) X dX6_take_41 hl rfl (by decide) (by decide) rfl (fun ls hl => ?_)
        have hl : LV ls 6 [(4, .int (l4 + 1)), (5, va_rf v16), (0, va_rf l0), (1, va_rf l1), (2, va_rf l2), (3, va_rf l3)] := hl
        refine lv_goto (tgt := 3) hx hb dX6_take_44 (by decide) ?_
        exact ih S l0 l1 l2 l3 (l4 + 1) hf _ _ _ hP (hl.sub [2, 3, 4, 5, 0] rfl)
      · have hf := ifn hf c23
        refine rw_aload_n X dX6_take_26 rfl (hl.at 1 rfl) ?_
        obtain ⟨v27, e27, hf⟩ := ob hf
        refine rw_getR X dX6_take_27 fl6_11 e27 rfl hP ?_
        refine lv_iload hx hb dX6_take_30 (hl.at 5 rfl) ?_
        obtain ⟨v32, e32, hf⟩ := ob hf
        refine rw_aald15 X dX6_take_32 e32 hP ?_
        refine rw_aload X dX6_take_33 (hl.at 0 rfl) ?_
        obtain ⟨v35, e35, hf⟩ := ob hf
        refine rw_getR X dX6_take_35 fl6_38 e35 rfl hP ?_
        obtain ⟨u38, r38, hf⟩ := ob hf
        obtain ⟨S38, e38, hf⟩ := ob hf
        refine rw_callVv (As := [va_rf v35]) X dX6_take_38 clX6_44 pyX3_copyFrom (mX3_copyFrom l e38) (by decide) r38 rfl hP rfl (catL c1n (Nat.le_of_ble_eq_true rfl)) hl.1.1 (fun H locs hP => ?_)
        refine rv_iinc (k := 5) (d := 1) X dX6_take_41 hl rfl (by decide) (by decide) rfl (fun ls hl => ?_)
        have hl : LV ls 6 [(4, .int (l4 + 1)), (5, va_rf v16), (0, va_rf l0), (1, va_rf l1), (2, va_rf l2), (3, va_rf l3)] := hl
        refine lv_goto (tgt := 3) hx hb dX6_take_44 (by decide) ?_
        exact ih S38 l0 l1 l2 l3 (l4 + 1) hf _ _ _ hP (hl.sub [2, 3, 4, 5, 0] rfl)
def fX6_take (Y : LY) (S : HS) (l0 : Option Nat) (l1 : Option Nat) (l2 : Option Nat) (l3 : Option Nat) : Option (HS) :=
  fX6_take_3 Y FU S l0 l1 l2 l3 0
set_option maxRecDepth 100000 in
set_option maxHeartbeats 4000000 in
theorem mX6_take (l : Launch) {G : GG} {Y : LY} {S : HS} {l0 : Option Nat} {l1 : Option Nat} {l2 : Option Nat} {l3 : Option Nat} {res : HS} (hf : fX6_take Y S l0 l1 l2 l3 = some res) : MM l yX6_take cX6_take 6 none 2 81 G Y S [va_rf l0, va_rf l1, va_rf l2, va_rf l3] res none := by
  refine mm_of2 (plainFor_of_name (by decide +kernel)) (Nat.le_of_ble_eq_true rfl) (c1c (cr _) (c1c (cr _) (c1c (cr _) (c1c (cr _) c1n)))) ?_
  intro p e R s m args below meth c X H locs ls hP hl
  have X : Cx p R s m args meth c RX6 cX6_take 6 2 81 (fun q => q ∈ Y.1) G none := X
  have hx := X.1.1
  have hb := X.1.2.1
  have hl : LV ls 6 [(0, va_rf l0), (1, va_rf l1), (2, va_rf l2), (3, va_rf l3)] := hl
  unfold fX6_take at hf
  refine lv_iconst (v := 0) hx hb dX6_take_0 (by decide) ?_
  refine rv_istore X dX6_take_1 hl (by decide) rfl (fun ls hl => ?_)
  have hl : LV ls 6 [(4, .int 0), (0, va_rf l0), (1, va_rf l1), (2, va_rf l2), (3, va_rf l3)] := hl
  exact wX6_take_3 X FU S l0 l1 l2 l3 0 hf _ _ _ hP (hl.sub [1, 2, 3, 4, 0] rfl)
theorem dX6_giveBack_0 : decode cX6_giveBack 0 = .ok (.iconst 0, 1) := by decide +kernel
theorem dX6_giveBack_1 : decode cX6_giveBack 1 = .ok (.istore 4, 2) := by decide +kernel
theorem dX6_giveBack_3 : decode cX6_giveBack 3 = .ok (.iload 4, 2) := by decide +kernel
theorem dX6_giveBack_5 : decode cX6_giveBack 5 = .ok (.aload_n 0, 1) := by decide +kernel
theorem dX6_giveBack_6 : decode cX6_giveBack 6 = .ok (.getfield 11, 3) := by decide +kernel
theorem dX6_giveBack_9 : decode cX6_giveBack 9 = .ok (.arraylength, 1) := by decide +kernel
theorem dX6_giveBack_10 : decode cX6_giveBack 10 = .ok (.if_icmp .ge 37, 3) := by decide +kernel
theorem dX6_giveBack_13 : decode cX6_giveBack 13 = .ok (.aload_n 1, 1) := by decide +kernel
theorem dX6_giveBack_14 : decode cX6_giveBack 14 = .ok (.iload 4, 2) := by decide +kernel
theorem dX6_giveBack_16 : decode cX6_giveBack 16 = .ok (.invokevirtual 32, 3) := by decide +kernel
theorem dX6_giveBack_19 : decode cX6_giveBack 19 = .ok (.astore 5, 2) := by decide +kernel
theorem dX6_giveBack_21 : decode cX6_giveBack 21 = .ok (.aload 5, 2) := by decide +kernel
theorem dX6_giveBack_23 : decode cX6_giveBack 23 = .ok (.ifnull 18, 3) := by decide +kernel
theorem dX6_giveBack_26 : decode cX6_giveBack 26 = .ok (.aload 5, 2) := by decide +kernel
theorem dX6_giveBack_28 : decode cX6_giveBack 28 = .ok (.getfield 38, 3) := by decide +kernel
theorem dX6_giveBack_31 : decode cX6_giveBack 31 = .ok (.aload_n 0, 1) := by decide +kernel
theorem dX6_giveBack_32 : decode cX6_giveBack 32 = .ok (.getfield 11, 3) := by decide +kernel
theorem dX6_giveBack_35 : decode cX6_giveBack 35 = .ok (.iload 4, 2) := by decide +kernel
theorem dX6_giveBack_37 : decode cX6_giveBack 37 = .ok (.aaload, 1) := by decide +kernel
theorem dX6_giveBack_38 : decode cX6_giveBack 38 = .ok (.invokevirtual 44, 3) := by decide +kernel
theorem dX6_giveBack_41 : decode cX6_giveBack 41 = .ok (.iinc 4 1, 3) := by decide +kernel
theorem dX6_giveBack_44 : decode cX6_giveBack 44 = .ok (.goto (-41), 3) := by decide +kernel
theorem dX6_giveBack_47 : decode cX6_giveBack 47 = .ok (.aload_n 2, 1) := by decide +kernel
theorem dX6_giveBack_48 : decode cX6_giveBack 48 = .ok (.aload_n 0, 1) := by decide +kernel
theorem dX6_giveBack_49 : decode cX6_giveBack 49 = .ok (.getfield 20, 3) := by decide +kernel
theorem dX6_giveBack_52 : decode cX6_giveBack 52 = .ok (.invokevirtual 48, 3) := by decide +kernel
theorem dX6_giveBack_55 : decode cX6_giveBack 55 = .ok (.aload_n 3, 1) := by decide +kernel
theorem dX6_giveBack_56 : decode cX6_giveBack 56 = .ok (.aload_n 0, 1) := by decide +kernel
theorem dX6_giveBack_57 : decode cX6_giveBack 57 = .ok (.getfield 27, 3) := by decide +kernel
theorem dX6_giveBack_60 : decode cX6_giveBack 60 = .ok (.invokevirtual 51, 3) := by decide +kernel
theorem dX6_giveBack_63 : decode cX6_giveBack 63 = .ok (.return_, 1) := by decide +kernel
theorem pyX6_giveBack : PY yX6_giveBack 3 := ⟨by decide +kernel, by decide +kernel, by decide +kernel⟩
def fX6_giveBack_3 (Y : LY) : Nat → HS → Option Nat → Option Nat → Option Nat → Option Nat → Int32 → Option (HS)
  | 0, _, _, _, _, _, _ => none
  | n + 1, S, l0, l1, l2, l3, l4 =>
    (gR Y 6 600 l0 S).bind fun v6 =>
    (aL Y 15 v6).bind fun v9 =>
    if v9 ≤ l4 then
      (gR Y 6 601 l0 S).bind fun v49 =>
      (rcv Y 0 l2).bind fun _ =>
      (fX0_copyFrom Y S l2 v49).bind fun S52 =>
      (gR Y 6 602 l0 S52).bind fun v57 =>
      (rcv Y 2 l3).bind fun _ =>
      (fX2_copyFrom Y S52 l3 v57).bind fun S60 =>
      some S60
    else
      (rcv Y 8 l1).bind fun _ =>
      (fX8_nodeAt Y S l1 l4).bind fun v16 =>
      if v16 = none then
        fX6_giveBack_3 Y n S l0 l1 l2 l3 (l4 + 1)
      else
        (gR Y 4 403 v16 S).bind fun v28 =>
        (gR Y 6 600 l0 S).bind fun v32 =>
        (gQ Y 15 v32 l4 S).bind fun v37 =>
        (rcv Y 3 v28).bind fun _ =>
        (fX3_copyFrom Y S v28 v37).bind fun S38 =>
        fX6_giveBack_3 Y n S38 l0 l1 l2 l3 (l4 + 1)
set_option maxRecDepth 100000 in
set_option maxHeartbeats 4000000 in
theorem wX6_giveBack_3 {p : Program} {l : Launch} {e : Env} {R : Room} {s : State} {m : MethodId} {args : Array Value} {below : List Frame} {meth : Method} {c : Code} {G : GG} {Y : LY} {res : HS} (X : Cx p R s m args meth c RX6 cX6_giveBack 6 2 81 (fun q => q ∈ Y.1) G none) : ∀ (n : Nat) (S : HS) (l0 : Option Nat) (l1 : Option Nat) (l2 : Option Nat) (l3 : Option Nat) (l4 : Int32), fX6_giveBack_3 Y n S l0 l1 l2 l3 l4 = some res → ∀ (H : Heap) (locs : List Loc) (ls : Array Slot), HP (fun q => q ∈ Y.1) G Y s S H locs → LV ls 6 [(0, va_rf l0), (1, va_rf l1), (2, va_rf l2), (3, va_rf l3), (4, .int l4)] → W p l e R s m args below meth c H locs 0 0 (MQ below (QI G Y res none) args s 0 0 (fun q => q ∈ Y.1)) (F0 m 3 ls []) := by
  have hx := X.1.1
  have hb := X.1.2.1
  intro n
  induction n with
  | zero =>
    intro S l0 l1 l2 l3 l4 hf
    cases hf
  | succ n ih =>
    intro S l0 l1 l2 l3 l4 hf H locs ls hP hl
    rw [fX6_giveBack_3] at hf
    refine lv_iload hx hb dX6_giveBack_3 (hl.at 4 rfl) ?_
    refine rw_aload_n X dX6_giveBack_5 rfl (hl.at 0 rfl) ?_
    obtain ⟨v6, e6, hf⟩ := ob hf
    refine rw_getR X dX6_giveBack_6 fl6_11 e6 rfl hP ?_
    obtain ⟨v9, e9, hf⟩ := ob hf
    refine rw_alen X (by decide) dX6_giveBack_9 e9 hP ?_
    refine lv_icmp_ge hx hb (tgt := 47) dX6_giveBack_10 (by decide) (fun c10 => ?_) (fun c10 => ?_)
    · have hf := ifp hf c10
      refine rw_aload_n X dX6_giveBack_47 rfl (hl.at 2 rfl) ?_
      refine rw_aload_n X dX6_giveBack_48 rfl (hl.at 0 rfl) ?_
      obtain ⟨v49, e49, hf⟩ := ob hf
      refine rw_getR X dX6_giveBack_49 fl6_20 e49 rfl hP ?_
      obtain ⟨u52, r52, hf⟩ := ob hf
      obtain ⟨S52, e52, hf⟩ := ob hf
      refine rw_callVv (As := [va_rf v49]) X dX6_giveBack_52 clX6_48 pyX0_copyFrom (mX0_copyFrom l e52) (by decide) r52 rfl hP rfl (catL c1n (Nat.le_of_ble_eq_true rfl)) hl.1.1 (fun H locs hP => ?_)
      refine rw_aload_n X dX6_giveBack_55 rfl (hl.at 3 rfl) ?_
      refine rw_aload_n X dX6_giveBack_56 rfl (hl.at 0 rfl) ?_
      obtain ⟨v57, e57, hf⟩ := ob hf
      refine rw_getR X dX6_giveBack_57 fl6_27 e57 rfl hP ?_
      obtain ⟨u60, r60, hf⟩ := ob hf
      obtain ⟨S60, e60, hf⟩ := ob hf
      refine rw_callVv (As := [va_rf v57]) X dX6_giveBack_60 clX6_51 pyX2_copyFrom (mX2_copyFrom l e60) (by decide) r60 rfl hP rfl (catL c1n (Nat.le_of_ble_eq_true rfl)) hl.1.1 (fun H locs hP => ?_)
      cases hf
      exact rw_vret X dX6_giveBack_63 hP
    · have hf := ifn hf c10
      refine rw_aload_n X dX6_giveBack_13 rfl (hl.at 1 rfl) ?_
      refine lv_iload hx hb dX6_giveBack_14 (hl.at 4 rfl) ?_
      obtain ⟨u16, r16, hf⟩ := ob hf
      obtain ⟨v16, e16, hf⟩ := ob hf
      refine rw_callVr (As := [.int l4]) X dX6_giveBack_16 clX6_32 pyX8_nodeAt (mX8_nodeAt l e16) (by decide) r16 rfl hP rfl (catL c1n (Nat.le_of_ble_eq_true rfl)) hl.1.1 (fun H locs hP => ?_)
      refine rv_astore X dX6_giveBack_19 hl (by decide) rfl (fun ls hl => ?_)
      have hl : LV ls 6 [(5, va_rf v16), (0, va_rf l0), (1, va_rf l1), (2, va_rf l2), (3, va_rf l3), (4, .int l4)] := hl
      refine rw_aload X dX6_giveBack_21 (hl.at 0 rfl) ?_
      refine rw_ifnull X (tgt := 41) dX6_giveBack_23 (by decide) (fun c23 => ?_) (fun c23 => ?_)
      · have hf := ifp hf c23
        refine rv_iinc (k := 5) (d := 1) X dX6_giveBack_41 hl rfl (by decide) (by decide) rfl (fun ls hl => ?_)
        have hl : LV ls 6 [(4, .int (l4 + 1)), (5, va_rf v16), (0, va_rf l0), (1, va_rf l1), (2, va_rf l2), (3, va_rf l3)] := hl
        refine lv_goto (tgt := 3) hx hb dX6_giveBack_44 (by decide) ?_
        exact ih S l0 l1 l2 l3 (l4 + 1) hf _ _ _ hP (hl.sub [2, 3, 4, 5, 0] rfl)
      · have hf := ifn hf c23
        refine rw_aload X dX6_giveBack_26 (hl.at 0 rfl) ?_
        obtain ⟨v28, e28, hf⟩ := ob hf
        refine rw_getR X dX6_giveBack_28 fl6_38 e28 rfl hP ?_
        refine rw_aload_n X dX6_giveBack_31 rfl (hl.at 1 rfl) ?_
        obtain ⟨v32, e32, hf⟩ := ob hf
        refine rw_getR X dX6_giveBack_32 fl6_11 e32 rfl hP ?_
        refine lv_iload hx hb dX6_giveBack_35 (hl.at 5 rfl) ?_
        obtain ⟨v37, e37, hf⟩ := ob hf
        refine rw_aald15 X dX6_giveBack_37 e37 hP ?_
        obtain ⟨u38, r38, hf⟩ := ob hf
        obtain ⟨S38, e38, hf⟩ := ob hf
        refine rw_callVv (As := [va_rf v37]) X dX6_giveBack_38 clX6_44 pyX3_copyFrom (mX3_copyFrom l e38) (by decide) r38 rfl hP rfl (catL c1n (Nat.le_of_ble_eq_true rfl)) hl.1.1 (fun H locs hP => ?_)
        refine rv_iinc (k := 5) (d := 1) X dX6_giveBack_41 hl rfl (by decide) (by decide) rfl (fun ls hl => ?_)
        have hl : LV ls 6 [(4, .int (l4 + 1)), (5, va_rf v16), (0, va_rf l0), (1, va_rf l1), (2, va_rf l2), (3, va_rf l3)] := hl
        refine lv_goto (tgt := 3) hx hb dX6_giveBack_44 (by decide) ?_
        exact ih S38 l0 l1 l2 l3 (l4 + 1) hf _ _ _ hP (hl.sub [2, 3, 4, 5, 0] rfl)
def fX6_giveBack (Y : LY) (S : HS) (l0 : Option Nat) (l1 : Option Nat) (l2 : Option Nat) (l3 : Option Nat) : Option (HS) :=
  fX6_giveBack_3 Y FU S l0 l1 l2 l3 0
set_option maxRecDepth 100000 in
set_option maxHeartbeats 4000000 in
theorem mX6_giveBack (l : Launch) {G : GG} {Y : LY} {S : HS} {l0 : Option Nat} {l1 : Option Nat} {l2 : Option Nat} {l3 : Option Nat} {res : HS} (hf : fX6_giveBack Y S l0 l1 l2 l3 = some res) : MM l yX6_giveBack cX6_giveBack 6 none 2 81 G Y S [va_rf l0, va_rf l1, va_rf l2, va_rf l3] res none := by
  refine mm_of2 (plainFor_of_name (by decide +kernel)) (Nat.le_of_ble_eq_true rfl) (c1c (cr _) (c1c (cr _) (c1c (cr _) (c1c (cr _) c1n)))) ?_
  intro p e R s m args below meth c X H locs ls hP hl
  have X : Cx p R s m args meth c RX6 cX6_giveBack 6 2 81 (fun q => q ∈ Y.1) G none := X
  have hx := X.1.1
  have hb := X.1.2.1
  have hl : LV ls 6 [(0, va_rf l0), (1, va_rf l1), (2, va_rf l2), (3, va_rf l3)] := hl
  unfold fX6_giveBack at hf
  refine lv_iconst (v := 0) hx hb dX6_giveBack_0 (by decide) ?_
  refine rv_istore X dX6_giveBack_1 hl (by decide) rfl (fun ls hl => ?_)
  have hl : LV ls 6 [(4, .int 0), (0, va_rf l0), (1, va_rf l1), (2, va_rf l2), (3, va_rf l3)] := hl
  exact wX6_giveBack_3 X FU S l0 l1 l2 l3 0 hf _ _ _ hP (hl.sub [1, 2, 3, 4, 0] rfl)
end
section
/-! printed by wip/whole/gen/gen_parts.py: 15.runner -/
theorem dX11_append_0 : decode cX11_append 0 = .ok (.iload_n 1, 1) := by decide +kernel
theorem dX11_append_1 : decode cX11_append 1 = .ok (.ifCond .lt 20, 3) := by decide +kernel
theorem dX11_append_4 : decode cX11_append 4 = .ok (.iload_n 1, 1) := by decide +kernel
theorem dX11_append_5 : decode cX11_append 5 = .ok (.bipush 127, 2) := by decide +kernel
theorem dX11_append_7 : decode cX11_append 7 = .ok (.if_icmp .gt 14, 3) := by decide +kernel
theorem dX11_append_10 : decode cX11_append 10 = .ok (.iload_n 2, 1) := by decide +kernel
theorem dX11_append_11 : decode cX11_append 11 = .ok (.iconst 1, 1) := by decide +kernel
theorem dX11_append_12 : decode cX11_append 12 = .ok (.if_icmp .lt 9, 3) := by decide +kernel
theorem dX11_append_15 : decode cX11_append 15 = .ok (.iload_n 2, 1) := by decide +kernel
theorem dX11_append_16 : decode cX11_append 16 = .ok (.bipush 70, 2) := by decide +kernel
theorem dX11_append_18 : decode cX11_append 18 = .ok (.if_icmp .le 7, 3) := by decide +kernel
theorem dX11_append_21 : decode cX11_append 21 = .ok (.sipush (-1002), 3) := by decide +kernel
theorem dX11_append_24 : decode cX11_append 24 = .ok (.ireturn, 1) := by decide +kernel
theorem dX11_append_25 : decode cX11_append 25 = .ok (.aload_n 0, 1) := by decide +kernel
theorem dX11_append_26 : decode cX11_append 26 = .ok (.getfield 10, 3) := by decide +kernel
theorem dX11_append_29 : decode cX11_append 29 = .ok (.getfield 60, 3) := by decide +kernel
theorem dX11_append_32 : decode cX11_append 32 = .ok (.iload_n 2, 1) := by decide +kernel
theorem dX11_append_33 : decode cX11_append 33 = .ok (.iadd, 1) := by decide +kernel
theorem dX11_append_34 : decode cX11_append 34 = .ok (.bipush 70, 2) := by decide +kernel
theorem dX11_append_36 : decode cX11_append 36 = .ok (.if_icmp .le 7, 3) := by decide +kernel
theorem dX11_append_39 : decode cX11_append 39 = .ok (.sipush (-1003), 3) := by decide +kernel
theorem dX11_append_42 : decode cX11_append 42 = .ok (.ireturn, 1) := by decide +kernel
theorem dX11_append_43 : decode cX11_append 43 = .ok (.iconst 0, 1) := by decide +kernel
theorem dX11_append_44 : decode cX11_append 44 = .ok (.istore_n 3, 1) := by decide +kernel
theorem dX11_append_45 : decode cX11_append 45 = .ok (.iload_n 3, 1) := by decide +kernel
theorem dX11_append_46 : decode cX11_append 46 = .ok (.iload_n 2, 1) := by decide +kernel
theorem dX11_append_47 : decode cX11_append 47 = .ok (.if_icmp .ge 18, 3) := by decide +kernel
theorem dX11_append_50 : decode cX11_append 50 = .ok (.aload_n 0, 1) := by decide +kernel
theorem dX11_append_51 : decode cX11_append 51 = .ok (.getfield 10, 3) := by decide +kernel
theorem dX11_append_54 : decode cX11_append 54 = .ok (.iload_n 1, 1) := by decide +kernel
theorem dX11_append_55 : decode cX11_append 55 = .ok (.i2c, 1) := by decide +kernel
theorem dX11_append_56 : decode cX11_append 56 = .ok (.invokevirtual 64, 3) := by decide +kernel
theorem dX11_append_59 : decode cX11_append 59 = .ok (.iinc 3 1, 3) := by decide +kernel
theorem dX11_append_62 : decode cX11_append 62 = .ok (.goto (-17), 3) := by decide +kernel
theorem dX11_append_65 : decode cX11_append 65 = .ok (.aload_n 0, 1) := by decide +kernel
theorem dX11_append_66 : decode cX11_append 66 = .ok (.getfield 10, 3) := by decide +kernel
theorem dX11_append_69 : decode cX11_append 69 = .ok (.getfield 60, 3) := by decide +kernel
theorem dX11_append_72 : decode cX11_append 72 = .ok (.ireturn, 1) := by decide +kernel
theorem pyX11_append : PY yX11_append 2 := ⟨by decide +kernel, by decide +kernel, by decide +kernel⟩
def fX11_append_45 (Y : LY) : Nat → HS → Option Nat → Int32 → Int32 → Int32 → Option (HS × Int32)
  | 0, _, _, _, _, _ => none
  | n + 1, S, l0, l1, l2, l3 =>
    if l2 ≤ l3 then
      (gR Y 11 1100 l0 S).bind fun v66 =>
      (gI Y 7 701 v66 S).bind fun v69 =>
      some (S, v69)
    else
      (gR Y 11 1100 l0 S).bind fun v51 =>
      (rcv Y 7 v51).bind fun _ =>
      (fX7_add Y S v51 ((l1.toUInt32 % 65536).toInt32)).bind fun S56 =>
      fX11_append_45 Y n S56 l0 l1 l2 (l3 + 1)
set_option maxRecDepth 100000 in
set_option maxHeartbeats 4000000 in
theorem wX11_append_45 {p : Program} {l : Launch} {e : Env} {R : Room} {s : State} {m : MethodId} {args : Array Value} {below : List Frame} {meth : Method} {c : Code} {G : GG} {Y : LY} {res : HS × Int32} (X : Cx p R s m args meth c RX11 cX11_append 4 1 21 (fun q => q ∈ Y.1) G (some .int)) : ∀ (n : Nat) (S : HS) (l0 : Option Nat) (l1 : Int32) (l2 : Int32) (l3 : Int32), fX11_append_45 Y n S l0 l1 l2 l3 = some res → ∀ (H : Heap) (locs : List Loc) (ls : Array Slot), HP (fun q => q ∈ Y.1) G Y s S H locs → LV ls 4 [(0, va_rf l0), (1, .int l1), (2, .int l2), (3, .int l3)] → W p l e R s m args below meth c H locs 0 0 (MQ below (QI G Y res.1 (some (.int res.2))) args s 0 0 (fun q => q ∈ Y.1)) (F0 m 45 ls []) := by
  have hx := X.1.1
  have hb := X.1.2.1
  intro n
  induction n with
  | zero =>
    intro S l0 l1 l2 l3 hf
    cases hf
  | succ n ih =>
    intro S l0 l1 l2 l3 hf H locs ls hP hl
    rw [fX11_append_45] at hf
    refine lv_iload_n hx hb dX11_append_45 rfl (hl.at 3 rfl) ?_
    refine lv_iload_n hx hb dX11_append_46 rfl (hl.at 2 rfl) ?_
    refine lv_icmp_ge hx hb (tgt := 65) dX11_append_47 (by decide) (fun c47 => ?_) (fun c47 => ?_)
    · have hf := ifp hf c47
      refine rw_aload_n X dX11_append_65 rfl (hl.at 0 rfl) ?_
      obtain ⟨v66, e66, hf⟩ := ob hf
      refine rw_getR X dX11_append_66 fl11_10 e66 rfl hP ?_
      obtain ⟨v69, e69, hf⟩ := ob hf
      refine rw_getI X dX11_append_69 fl11_60 e69 rfl hP ?_
      cases hf
      exact rw_iret X dX11_append_72 hP
    · have hf := ifn hf c47
      refine rw_aload_n X dX11_append_50 rfl (hl.at 0 rfl) ?_
      obtain ⟨v51, e51, hf⟩ := ob hf
      refine rw_getR X dX11_append_51 fl11_10 e51 rfl hP ?_
      refine lv_iload_n hx hb dX11_append_54 rfl (hl.at 1 rfl) ?_
      refine lv_i2c hx hb dX11_append_55 rfl ?_
      obtain ⟨u56, r56, hf⟩ := ob hf
      obtain ⟨S56, e56, hf⟩ := ob hf
      refine rw_callVv (As := [.int ((l1.toUInt32 % 65536).toInt32)]) X dX11_append_56 clX11_64 pyX7_add (mX7_add l e56) (by decide) r56 rfl hP rfl (catL c1n (Nat.le_of_ble_eq_true rfl)) hl.1.1 (fun H locs hP => ?_)
      refine rv_iinc (k := 3) (d := 1) X dX11_append_59 hl rfl (by decide) (by decide) rfl (fun ls hl => ?_)
      have hl : LV ls 4 [(3, .int (l3 + 1)), (0, va_rf l0), (1, .int l1), (2, .int l2)] := hl
      refine lv_goto (tgt := 45) hx hb dX11_append_62 (by decide) ?_
      exact ih S56 l0 l1 l2 (l3 + 1) hf _ _ _ hP (hl.sub [1, 2, 3, 0] rfl)
def fX11_append (Y : LY) (S : HS) (l0 : Option Nat) (l1 : Int32) (l2 : Int32) : Option (HS × Int32) :=
  if l1 < 0 then
    some (S, (-1002))
  else
    if 127 < l1 then
      some (S, (-1002))
    else
      if l2 < 1 then
        some (S, (-1002))
      else
        if l2 ≤ 70 then
          (gR Y 11 1100 l0 S).bind fun v26 =>
          (gI Y 7 701 v26 S).bind fun v29 =>
          if (v29 + l2) ≤ 70 then
            fX11_append_45 Y FU S l0 l1 l2 0
          else
            some (S, (-1003))
        else
          some (S, (-1002))
set_option maxRecDepth 100000 in
set_option maxHeartbeats 4000000 in
theorem mX11_append (l : Launch) {G : GG} {Y : LY} {S : HS} {l0 : Option Nat} {l1 : Int32} {l2 : Int32} {res : HS × Int32} (hf : fX11_append Y S l0 l1 l2 = some res) : MM l yX11_append cX11_append 4 (some .int) 1 21 G Y S [va_rf l0, .int l1, .int l2] res.1 (some (.int res.2)) := by
  refine mm_of2 (plainFor_of_name (by decide +kernel)) (Nat.le_of_ble_eq_true rfl) (c1c (cr _) (c1c (ci _) (c1c (ci _) c1n))) ?_
  intro p e R s m args below meth c X H locs ls hP hl
  have X : Cx p R s m args meth c RX11 cX11_append 4 1 21 (fun q => q ∈ Y.1) G (some .int) := X
  have hx := X.1.1
  have hb := X.1.2.1
  have hl : LV ls 4 [(0, va_rf l0), (1, .int l1), (2, .int l2)] := hl
  unfold fX11_append at hf
  refine lv_iload_n hx hb dX11_append_0 rfl (hl.at 1 rfl) ?_
  refine lv_if_lt hx hb (tgt := 21) dX11_append_1 (by decide) (fun c1 => ?_) (fun c1 => ?_)
  · have hf := ifp hf c1
    refine lv_sipush (v := (-1002)) hx hb dX11_append_21 (by decide) ?_
    cases hf
    exact rw_iret X dX11_append_24 hP
  · have hf := ifn hf c1
    refine lv_iload_n hx hb dX11_append_4 rfl (hl.at 1 rfl) ?_
    refine lv_bipush (v := 127) hx hb dX11_append_5 (by decide) ?_
    refine lv_icmp_gt hx hb (tgt := 21) dX11_append_7 (by decide) (fun c7 => ?_) (fun c7 => ?_)
    · have hf := ifp hf c7
      refine lv_sipush (v := (-1002)) hx hb dX11_append_21 (by decide) ?_
      cases hf
      exact rw_iret X dX11_append_24 hP
    · have hf := ifn hf c7
      refine lv_iload_n hx hb dX11_append_10 rfl (hl.at 2 rfl) ?_
      refine lv_iconst (v := 1) hx hb dX11_append_11 (by decide) ?_
      refine lv_icmp_lt hx hb (tgt := 21) dX11_append_12 (by decide) (fun c12 => ?_) (fun c12 => ?_)
      · have hf := ifp hf c12
        refine lv_sipush (v := (-1002)) hx hb dX11_append_21 (by decide) ?_
        cases hf
        exact rw_iret X dX11_append_24 hP
      · have hf := ifn hf c12
        refine lv_iload_n hx hb dX11_append_15 rfl (hl.at 2 rfl) ?_
        refine lv_bipush (v := 70) hx hb dX11_append_16 (by decide) ?_
        refine lv_icmp_le hx hb (tgt := 25) dX11_append_18 (by decide) (fun c18 => ?_) (fun c18 => ?_)
        · have hf := ifp hf c18
          refine rw_aload_n X dX11_append_25 rfl (hl.at 0 rfl) ?_
          obtain ⟨v26, e26, hf⟩ := ob hf
          refine rw_getR X dX11_append_26 fl11_10 e26 rfl hP ?_
          obtain ⟨v29, e29, hf⟩ := ob hf
          refine rw_getI X dX11_append_29 fl11_60 e29 rfl hP ?_
          refine lv_iload_n hx hb dX11_append_32 rfl (hl.at 2 rfl) ?_
          refine lv_iadd hx hb dX11_append_33 ?_
          refine lv_bipush (v := 70) hx hb dX11_append_34 (by decide) ?_
          refine lv_icmp_le hx hb (tgt := 43) dX11_append_36 (by decide) (fun c36 => ?_) (fun c36 => ?_)
          · have hf := ifp hf c36
            refine lv_iconst (v := 0) hx hb dX11_append_43 (by decide) ?_
            refine rv_istore_n X dX11_append_44 rfl hl (by decide) rfl (fun ls hl => ?_)
            have hl : LV ls 4 [(3, .int 0), (0, va_rf l0), (1, .int l1), (2, .int l2)] := hl
            exact wX11_append_45 X FU S l0 l1 l2 0 hf _ _ _ hP (hl.sub [1, 2, 3, 0] rfl)
          · have hf := ifn hf c36
            refine lv_sipush (v := (-1003)) hx hb dX11_append_39 (by decide) ?_
            cases hf
            exact rw_iret X dX11_append_42 hP
        · have hf := ifn hf c18
          refine lv_sipush (v := (-1002)) hx hb dX11_append_21 (by decide) ?_
          cases hf
          exact rw_iret X dX11_append_24 hP
theorem dX11_set_0 : decode cX11_set 0 = .ok (.iload_n 1, 1) := by decide +kernel
theorem dX11_set_1 : decode cX11_set 1 = .ok (.ifCond .lt 23, 3) := by decide +kernel
theorem dX11_set_4 : decode cX11_set 4 = .ok (.iload_n 1, 1) := by decide +kernel
theorem dX11_set_5 : decode cX11_set 5 = .ok (.bipush 8, 2) := by decide +kernel
theorem dX11_set_7 : decode cX11_set 7 = .ok (.if_icmp .ge 17, 3) := by decide +kernel
theorem dX11_set_10 : decode cX11_set 10 = .ok (.iload_n 2, 1) := by decide +kernel
theorem dX11_set_11 : decode cX11_set 11 = .ok (.sipush (-999), 3) := by decide +kernel
theorem dX11_set_14 : decode cX11_set 14 = .ok (.if_icmp .lt 10, 3) := by decide +kernel
theorem dX11_set_17 : decode cX11_set 17 = .ok (.iload_n 2, 1) := by decide +kernel
theorem dX11_set_18 : decode cX11_set 18 = .ok (.sipush 999, 3) := by decide +kernel
theorem dX11_set_21 : decode cX11_set 21 = .ok (.if_icmp .le 7, 3) := by decide +kernel
theorem dX11_set_24 : decode cX11_set 24 = .ok (.sipush (-1002), 3) := by decide +kernel
theorem dX11_set_27 : decode cX11_set 27 = .ok (.ireturn, 1) := by decide +kernel
theorem dX11_set_28 : decode cX11_set 28 = .ok (.aload_n 0, 1) := by decide +kernel
theorem dX11_set_29 : decode cX11_set 29 = .ok (.getfield 30, 3) := by decide +kernel
theorem dX11_set_32 : decode cX11_set 32 = .ok (.aconst_null, 1) := by decide +kernel
theorem dX11_set_33 : decode cX11_set 33 = .ok (.iload_n 1, 1) := by decide +kernel
theorem dX11_set_34 : decode cX11_set 34 = .ok (.invokevirtual 83, 3) := by decide +kernel
theorem dX11_set_37 : decode cX11_set 37 = .ok (.istore_n 3, 1) := by decide +kernel
theorem dX11_set_38 : decode cX11_set 38 = .ok (.aload_n 0, 1) := by decide +kernel
theorem dX11_set_39 : decode cX11_set 39 = .ok (.getfield 30, 3) := by decide +kernel
theorem dX11_set_42 : decode cX11_set 42 = .ok (.aconst_null, 1) := by decide +kernel
theorem dX11_set_43 : decode cX11_set 43 = .ok (.iload_n 1, 1) := by decide +kernel
theorem dX11_set_44 : decode cX11_set 44 = .ok (.iload_n 2, 1) := by decide +kernel
theorem dX11_set_45 : decode cX11_set 45 = .ok (.invokevirtual 89, 3) := by decide +kernel
theorem dX11_set_48 : decode cX11_set 48 = .ok (.iload_n 3, 1) := by decide +kernel
theorem dX11_set_49 : decode cX11_set 49 = .ok (.ireturn, 1) := by decide +kernel
theorem pyX11_set : PY yX11_set 2 := ⟨by decide +kernel, by decide +kernel, by decide +kernel⟩
def fX11_set (Y : LY) (S : HS) (l0 : Option Nat) (l1 : Int32) (l2 : Int32) : Option (HS × Int32) :=
  if l1 < 0 then
    some (S, (-1002))
  else
    if 8 ≤ l1 then
      some (S, (-1002))
    else
      if l2 < (-999) then
        some (S, (-1002))
      else
        if l2 ≤ 999 then
          (gR Y 11 1103 l0 S).bind fun v29 =>
          (rcv Y 0 v29).bind fun _ =>
          (fX0_valueIn Y S v29 none l1).bind fun v34 =>
          (gR Y 11 1103 l0 S).bind fun v39 =>
          (rcv Y 0 v39).bind fun _ =>
          (fX0_put Y S v39 none l1 l2).bind fun S45 =>
          some (S45, v34)
        else
          some (S, (-1002))
set_option maxRecDepth 100000 in
set_option maxHeartbeats 4000000 in
theorem mX11_set (l : Launch) {G : GG} {Y : LY} {S : HS} {l0 : Option Nat} {l1 : Int32} {l2 : Int32} {res : HS × Int32} (hf : fX11_set Y S l0 l1 l2 = some res) : MM l yX11_set cX11_set 4 (some .int) 1 23 G Y S [va_rf l0, .int l1, .int l2] res.1 (some (.int res.2)) := by
  refine mm_of2 (plainFor_of_name (by decide +kernel)) (Nat.le_of_ble_eq_true rfl) (c1c (cr _) (c1c (ci _) (c1c (ci _) c1n))) ?_
  intro p e R s m args below meth c X H locs ls hP hl
  have X : Cx p R s m args meth c RX11 cX11_set 4 1 23 (fun q => q ∈ Y.1) G (some .int) := X
  have hx := X.1.1
  have hb := X.1.2.1
  have hl : LV ls 4 [(0, va_rf l0), (1, .int l1), (2, .int l2)] := hl
  unfold fX11_set at hf
  refine lv_iload_n hx hb dX11_set_0 rfl (hl.at 1 rfl) ?_
  refine lv_if_lt hx hb (tgt := 24) dX11_set_1 (by decide) (fun c1 => ?_) (fun c1 => ?_)
  · have hf := ifp hf c1
    refine lv_sipush (v := (-1002)) hx hb dX11_set_24 (by decide) ?_
    cases hf
    exact rw_iret X dX11_set_27 hP
  · have hf := ifn hf c1
    refine lv_iload_n hx hb dX11_set_4 rfl (hl.at 1 rfl) ?_
    refine lv_bipush (v := 8) hx hb dX11_set_5 (by decide) ?_
    refine lv_icmp_ge hx hb (tgt := 24) dX11_set_7 (by decide) (fun c7 => ?_) (fun c7 => ?_)
    · have hf := ifp hf c7
      refine lv_sipush (v := (-1002)) hx hb dX11_set_24 (by decide) ?_
      cases hf
      exact rw_iret X dX11_set_27 hP
    · have hf := ifn hf c7
      refine lv_iload_n hx hb dX11_set_10 rfl (hl.at 2 rfl) ?_
      refine lv_sipush (v := (-999)) hx hb dX11_set_11 (by decide) ?_
      refine lv_icmp_lt hx hb (tgt := 24) dX11_set_14 (by decide) (fun c14 => ?_) (fun c14 => ?_)
      · have hf := ifp hf c14
        refine lv_sipush (v := (-1002)) hx hb dX11_set_24 (by decide) ?_
        cases hf
        exact rw_iret X dX11_set_27 hP
      · have hf := ifn hf c14
        refine lv_iload_n hx hb dX11_set_17 rfl (hl.at 2 rfl) ?_
        refine lv_sipush (v := 999) hx hb dX11_set_18 (by decide) ?_
        refine lv_icmp_le hx hb (tgt := 28) dX11_set_21 (by decide) (fun c21 => ?_) (fun c21 => ?_)
        · have hf := ifp hf c21
          refine rw_aload_n X dX11_set_28 rfl (hl.at 0 rfl) ?_
          obtain ⟨v29, e29, hf⟩ := ob hf
          refine rw_getR X dX11_set_29 fl11_30 e29 rfl hP ?_
          refine lv_null hx hb dX11_set_32 ?_
          refine W.eq (g2 := F0 m 33 ls (va_rf none :: (va_rf v29 :: []))) rfl ?_
          refine lv_iload_n hx hb dX11_set_33 rfl (hl.at 1 rfl) ?_
          obtain ⟨u34, r34, hf⟩ := ob hf
          obtain ⟨v34, e34, hf⟩ := ob hf
          refine rw_callVi (As := [va_rf none, .int l1]) X dX11_set_34 clX11_83 pyX0_valueIn (mX0_valueIn l e34) (by decide) r34 rfl hP rfl (catL c1n (Nat.le_of_ble_eq_true rfl)) hl.1.1 (fun H locs hP => ?_)
          refine rv_istore_n X dX11_set_37 rfl hl (by decide) rfl (fun ls hl => ?_)
          have hl : LV ls 4 [(3, .int v34), (0, va_rf l0), (1, .int l1), (2, .int l2)] := hl
          refine rw_aload_n X dX11_set_38 rfl (hl.at 1 rfl) ?_
          obtain ⟨v39, e39, hf⟩ := ob hf
          refine rw_getR X dX11_set_39 fl11_30 e39 rfl hP ?_
          refine lv_null hx hb dX11_set_42 ?_
          refine W.eq (g2 := F0 m 43 ls (va_rf none :: (va_rf v39 :: []))) rfl ?_
          refine lv_iload_n hx hb dX11_set_43 rfl (hl.at 2 rfl) ?_
          refine lv_iload_n hx hb dX11_set_44 rfl (hl.at 3 rfl) ?_
          obtain ⟨u45, r45, hf⟩ := ob hf
          obtain ⟨S45, e45, hf⟩ := ob hf
          refine rw_callVv (As := [va_rf none, .int l1, .int l2]) X dX11_set_45 clX11_89 pyX0_put (mX0_put l e45) (by decide) r45 rfl hP rfl (catL c1n (Nat.le_of_ble_eq_true rfl)) hl.1.1 (fun H locs hP => ?_)
          refine lv_iload_n hx hb dX11_set_48 rfl (hl.at 0 rfl) ?_
          cases hf
          exact rw_iret X dX11_set_49 hP
        · have hf := ifn hf c21
          refine lv_sipush (v := (-1002)) hx hb dX11_set_24 (by decide) ?_
          cases hf
          exact rw_iret X dX11_set_27 hP
theorem dX11_value_0 : decode cX11_value 0 = .ok (.iload_n 2, 1) := by decide +kernel
theorem dX11_value_1 : decode cX11_value 1 = .ok (.ifCond .lt 9, 3) := by decide +kernel
theorem dX11_value_4 : decode cX11_value 4 = .ok (.iload_n 2, 1) := by decide +kernel
theorem dX11_value_5 : decode cX11_value 5 = .ok (.bipush 8, 2) := by decide +kernel
theorem dX11_value_7 : decode cX11_value 7 = .ok (.if_icmp .lt 7, 3) := by decide +kernel
theorem dX11_value_10 : decode cX11_value 10 = .ok (.sipush (-1002), 3) := by decide +kernel
theorem dX11_value_13 : decode cX11_value 13 = .ok (.ireturn, 1) := by decide +kernel
theorem dX11_value_14 : decode cX11_value 14 = .ok (.iload_n 1, 1) := by decide +kernel
theorem dX11_value_15 : decode cX11_value 15 = .ok (.iconst (-1), 1) := by decide +kernel
theorem dX11_value_16 : decode cX11_value 16 = .ok (.if_icmp .ne 13, 3) := by decide +kernel
theorem dX11_value_19 : decode cX11_value 19 = .ok (.aload_n 0, 1) := by decide +kernel
theorem dX11_value_20 : decode cX11_value 20 = .ok (.getfield 30, 3) := by decide +kernel
theorem dX11_value_23 : decode cX11_value 23 = .ok (.aconst_null, 1) := by decide +kernel
theorem dX11_value_24 : decode cX11_value 24 = .ok (.iload_n 2, 1) := by decide +kernel
theorem dX11_value_25 : decode cX11_value 25 = .ok (.invokevirtual 83, 3) := by decide +kernel
theorem dX11_value_28 : decode cX11_value 28 = .ok (.ireturn, 1) := by decide +kernel
theorem dX11_value_29 : decode cX11_value 29 = .ok (.aload_n 0, 1) := by decide +kernel
theorem dX11_value_30 : decode cX11_value 30 = .ok (.getfield 49, 3) := by decide +kernel
theorem dX11_value_33 : decode cX11_value 33 = .ok (.iload_n 1, 1) := by decide +kernel
theorem dX11_value_34 : decode cX11_value 34 = .ok (.invokevirtual 93, 3) := by decide +kernel
theorem dX11_value_37 : decode cX11_value 37 = .ok (.astore_n 3, 1) := by decide +kernel
theorem dX11_value_38 : decode cX11_value 38 = .ok (.aload_n 3, 1) := by decide +kernel
theorem dX11_value_39 : decode cX11_value 39 = .ok (.ifnonnull 9, 3) := by decide +kernel
theorem dX11_value_42 : decode cX11_value 42 = .ok (.sipush (-1001), 3) := by decide +kernel
theorem dX11_value_45 : decode cX11_value 45 = .ok (.goto 16, 3) := by decide +kernel
theorem dX11_value_48 : decode cX11_value 48 = .ok (.aload_n 0, 1) := by decide +kernel
theorem dX11_value_49 : decode cX11_value 49 = .ok (.getfield 30, 3) := by decide +kernel
theorem dX11_value_52 : decode cX11_value 52 = .ok (.aload_n 3, 1) := by decide +kernel
theorem dX11_value_53 : decode cX11_value 53 = .ok (.iload_n 2, 1) := by decide +kernel
theorem dX11_value_54 : decode cX11_value 54 = .ok (.invokevirtual 97, 3) := by decide +kernel
theorem dX11_value_57 : decode cX11_value 57 = .ok (.iload_n 2, 1) := by decide +kernel
theorem dX11_value_58 : decode cX11_value 58 = .ok (.invokevirtual 83, 3) := by decide +kernel
theorem dX11_value_61 : decode cX11_value 61 = .ok (.ireturn, 1) := by decide +kernel
theorem pyX11_value : PY yX11_value 2 := ⟨by decide +kernel, by decide +kernel, by decide +kernel⟩
def fX11_value (Y : LY) (S : HS) (l0 : Option Nat) (l1 : Int32) (l2 : Int32) : Option (Int32) :=
  if l2 < 0 then
    some (-1002)
  else
    if l2 < 8 then
      if l1 = (-1) then
        (gR Y 11 1103 l0 S).bind fun v20 =>
        (rcv Y 0 v20).bind fun _ =>
        (fX0_valueIn Y S v20 none l2).bind fun v25 =>
        some v25
      else
        (gR Y 11 1107 l0 S).bind fun v30 =>
        (rcv Y 8 v30).bind fun _ =>
        (fX8_nodeAt Y S v30 l1).bind fun v34 =>
        if v34 = none then
          some (-1001)
        else
          (gR Y 11 1103 l0 S).bind fun v49 =>
          (rcv Y 4 v34).bind fun _ =>
          (fX4_scopeOf Y S v34 l2).bind fun v54 =>
          (rcv Y 0 v49).bind fun _ =>
          (fX0_valueIn Y S v49 v54 l2).bind fun v58 =>
          some v58
    else
      some (-1002)
set_option maxRecDepth 100000 in
set_option maxHeartbeats 4000000 in
theorem mX11_value (l : Launch) {G : GG} {Y : LY} {S : HS} {l0 : Option Nat} {l1 : Int32} {l2 : Int32} {res : Int32} (hf : fX11_value Y S l0 l1 l2 = some res) : MM l yX11_value cX11_value 4 (some .int) 1 22 G Y S [va_rf l0, .int l1, .int l2] S (some (.int res)) := by
  refine mm_of2 (plainFor_of_name (by decide +kernel)) (Nat.le_of_ble_eq_true rfl) (c1c (cr _) (c1c (ci _) (c1c (ci _) c1n))) ?_
  intro p e R s m args below meth c X H locs ls hP hl
  have X : Cx p R s m args meth c RX11 cX11_value 4 1 22 (fun q => q ∈ Y.1) G (some .int) := X
  have hx := X.1.1
  have hb := X.1.2.1
  have hl : LV ls 4 [(0, va_rf l0), (1, .int l1), (2, .int l2)] := hl
  unfold fX11_value at hf
  refine lv_iload_n hx hb dX11_value_0 rfl (hl.at 2 rfl) ?_
  refine lv_if_lt hx hb (tgt := 10) dX11_value_1 (by decide) (fun c1 => ?_) (fun c1 => ?_)
  · have hf := ifp hf c1
    refine lv_sipush (v := (-1002)) hx hb dX11_value_10 (by decide) ?_
    cases hf
    exact rw_iret X dX11_value_13 hP
  · have hf := ifn hf c1
    refine lv_iload_n hx hb dX11_value_4 rfl (hl.at 2 rfl) ?_
    refine lv_bipush (v := 8) hx hb dX11_value_5 (by decide) ?_
    refine lv_icmp_lt hx hb (tgt := 14) dX11_value_7 (by decide) (fun c7 => ?_) (fun c7 => ?_)
    · have hf := ifp hf c7
      refine lv_iload_n hx hb dX11_value_14 rfl (hl.at 1 rfl) ?_
      refine lv_iconst (v := (-1)) hx hb dX11_value_15 (by decide) ?_
      refine lv_icmp_ne hx hb (tgt := 29) dX11_value_16 (by decide) (fun c16 => ?_) (fun c16 => ?_)
      · have hf := ifn hf c16
        refine rw_aload_n X dX11_value_29 rfl (hl.at 0 rfl) ?_
        obtain ⟨v30, e30, hf⟩ := ob hf
        refine rw_getR X dX11_value_30 fl11_49 e30 rfl hP ?_
        refine lv_iload_n hx hb dX11_value_33 rfl (hl.at 1 rfl) ?_
        obtain ⟨u34, r34, hf⟩ := ob hf
        obtain ⟨v34, e34, hf⟩ := ob hf
        refine rw_callVr (As := [.int l1]) X dX11_value_34 clX11_93 pyX8_nodeAt (mX8_nodeAt l e34) (by decide) r34 rfl hP rfl (catL c1n (Nat.le_of_ble_eq_true rfl)) hl.1.1 (fun H locs hP => ?_)
        refine rv_astore_n X dX11_value_37 rfl hl (by decide) rfl (fun ls hl => ?_)
        have hl : LV ls 4 [(3, va_rf v34), (0, va_rf l0), (1, .int l1), (2, .int l2)] := hl
        refine rw_aload_n X dX11_value_38 rfl (hl.at 0 rfl) ?_
        refine rw_ifnonnull X (tgt := 48) dX11_value_39 (by decide) (fun c39 => ?_) (fun c39 => ?_)
        · have hf := ifn hf c39
          refine rw_aload_n X dX11_value_48 rfl (hl.at 1 rfl) ?_
          obtain ⟨v49, e49, hf⟩ := ob hf
          refine rw_getR X dX11_value_49 fl11_30 e49 rfl hP ?_
          refine rw_aload_n X dX11_value_52 rfl (hl.at 0 rfl) ?_
          refine lv_iload_n hx hb dX11_value_53 rfl (hl.at 3 rfl) ?_
          obtain ⟨u54, r54, hf⟩ := ob hf
          obtain ⟨v54, e54, hf⟩ := ob hf
          refine rw_callVr (As := [.int l2]) X dX11_value_54 clX11_97 pyX4_scopeOf (mX4_scopeOf l e54) (by decide) r54 rfl hP rfl (catL (c1c (cr _) c1n) (Nat.le_of_ble_eq_true rfl)) hl.1.1 (fun H locs hP => ?_)
          refine lv_iload_n hx hb dX11_value_57 rfl (hl.at 3 rfl) ?_
          obtain ⟨u58, r58, hf⟩ := ob hf
          obtain ⟨v58, e58, hf⟩ := ob hf
          refine rw_callVi (As := [va_rf v54, .int l2]) X dX11_value_58 clX11_83 pyX0_valueIn (mX0_valueIn l e58) (by decide) r58 rfl hP rfl (catL c1n (Nat.le_of_ble_eq_true rfl)) hl.1.1 (fun H locs hP => ?_)
          cases hf
          exact rw_iret X dX11_value_61 hP
        · have hf := ifp hf c39
          refine lv_sipush (v := (-1001)) hx hb dX11_value_42 (by decide) ?_
          refine lv_goto (tgt := 61) hx hb dX11_value_45 (by decide) ?_
          cases hf
          exact rw_iret X dX11_value_61 hP
      · have hf := ifp hf c16
        refine rw_aload_n X dX11_value_19 rfl (hl.at 0 rfl) ?_
        obtain ⟨v20, e20, hf⟩ := ob hf
        refine rw_getR X dX11_value_20 fl11_30 e20 rfl hP ?_
        refine lv_null hx hb dX11_value_23 ?_
        refine W.eq (g2 := F0 m 24 ls (va_rf none :: (va_rf v20 :: []))) rfl ?_
        refine lv_iload_n hx hb dX11_value_24 rfl (hl.at 2 rfl) ?_
        obtain ⟨u25, r25, hf⟩ := ob hf
        obtain ⟨v25, e25, hf⟩ := ob hf
        refine rw_callVi (As := [va_rf none, .int l2]) X dX11_value_25 clX11_83 pyX0_valueIn (mX0_valueIn l e25) (by decide) r25 rfl hP rfl (catL c1n (Nat.le_of_ble_eq_true rfl)) hl.1.1 (fun H locs hP => ?_)
        cases hf
        exact rw_iret X dX11_value_28 hP
    · have hf := ifn hf c7
      refine lv_sipush (v := (-1002)) hx hb dX11_value_10 (by decide) ?_
      cases hf
      exact rw_iret X dX11_value_13 hP
theorem dX11_tick_0 : decode cX11_tick 0 = .ok (.iload_n 1, 1) := by decide +kernel
theorem dX11_tick_1 : decode cX11_tick 1 = .ok (.iconst 1, 1) := by decide +kernel
theorem dX11_tick_2 : decode cX11_tick 2 = .ok (.if_icmp .lt 10, 3) := by decide +kernel
theorem dX11_tick_5 : decode cX11_tick 5 = .ok (.iload_n 1, 1) := by decide +kernel
theorem dX11_tick_6 : decode cX11_tick 6 = .ok (.sipush 999, 3) := by decide +kernel
theorem dX11_tick_9 : decode cX11_tick 9 = .ok (.if_icmp .le 7, 3) := by decide +kernel
theorem dX11_tick_12 : decode cX11_tick 12 = .ok (.sipush (-1002), 3) := by decide +kernel
theorem dX11_tick_15 : decode cX11_tick 15 = .ok (.ireturn, 1) := by decide +kernel
theorem dX11_tick_16 : decode cX11_tick 16 = .ok (.aload_n 0, 1) := by decide +kernel
theorem dX11_tick_17 : decode cX11_tick 17 = .ok (.getfield 49, 3) := by decide +kernel
theorem dX11_tick_20 : decode cX11_tick 20 = .ok (.iconst 0, 1) := by decide +kernel
theorem dX11_tick_21 : decode cX11_tick 21 = .ok (.invokevirtual 93, 3) := by decide +kernel
theorem dX11_tick_24 : decode cX11_tick 24 = .ok (.astore_n 2, 1) := by decide +kernel
theorem dX11_tick_25 : decode cX11_tick 25 = .ok (.aload_n 2, 1) := by decide +kernel
theorem dX11_tick_26 : decode cX11_tick 26 = .ok (.ifnonnull 9, 3) := by decide +kernel
theorem dX11_tick_29 : decode cX11_tick 29 = .ok (.sipush (-1004), 3) := by decide +kernel
theorem dX11_tick_32 : decode cX11_tick 32 = .ok (.goto 12, 3) := by decide +kernel
theorem dX11_tick_35 : decode cX11_tick 35 = .ok (.aload_n 0, 1) := by decide +kernel
theorem dX11_tick_36 : decode cX11_tick 36 = .ok (.getfield 22, 3) := by decide +kernel
theorem dX11_tick_39 : decode cX11_tick 39 = .ok (.aload_n 2, 1) := by decide +kernel
theorem dX11_tick_40 : decode cX11_tick 40 = .ok (.iload_n 1, 1) := by decide +kernel
theorem dX11_tick_41 : decode cX11_tick 41 = .ok (.invokevirtual 102, 3) := by decide +kernel
theorem dX11_tick_44 : decode cX11_tick 44 = .ok (.ireturn, 1) := by decide +kernel
theorem pyX11_tick : PY yX11_tick 1 := ⟨by decide +kernel, by decide +kernel, by decide +kernel⟩
def fX11_tick (Y : LY) (S : HS) (l0 : Option Nat) (l1 : Int32) : Option (HS × Int32) :=
  if l1 < 1 then
    some (S, (-1002))
  else
    if l1 ≤ 999 then
      (gR Y 11 1107 l0 S).bind fun v17 =>
      (rcv Y 8 v17).bind fun _ =>
      (fX8_nodeAt Y S v17 0).bind fun v21 =>
      if v21 = none then
        some (S, (-1004))
      else
        (gR Y 11 1102 l0 S).bind fun v36 =>
        (rcv Y 9 v36).bind fun _ =>
        (fX9_perform Y S v36 v21 l1).bind fun q41 =>
        some (q41.1, q41.2)
    else
      some (S, (-1002))
set_option maxRecDepth 100000 in
set_option maxHeartbeats 4000000 in
theorem mX11_tick (l : Launch) {G : GG} {Y : LY} {S : HS} {l0 : Option Nat} {l1 : Int32} {res : HS × Int32} (hf : fX11_tick Y S l0 l1 = some res) : MM l yX11_tick cX11_tick 3 (some .int) 7 172 G Y S [va_rf l0, .int l1] res.1 (some (.int res.2)) := by
  refine mm_of2 (plainFor_of_name (by decide +kernel)) (Nat.le_of_ble_eq_true rfl) (c1c (cr _) (c1c (ci _) c1n)) ?_
  intro p e R s m args below meth c X H locs ls hP hl
  have X : Cx p R s m args meth c RX11 cX11_tick 3 7 172 (fun q => q ∈ Y.1) G (some .int) := X
  have hx := X.1.1
  have hb := X.1.2.1
  have hl : LV ls 3 [(0, va_rf l0), (1, .int l1)] := hl
  unfold fX11_tick at hf
  refine lv_iload_n hx hb dX11_tick_0 rfl (hl.at 1 rfl) ?_
  refine lv_iconst (v := 1) hx hb dX11_tick_1 (by decide) ?_
  refine lv_icmp_lt hx hb (tgt := 12) dX11_tick_2 (by decide) (fun c2 => ?_) (fun c2 => ?_)
  · have hf := ifp hf c2
    refine lv_sipush (v := (-1002)) hx hb dX11_tick_12 (by decide) ?_
    cases hf
    exact rw_iret X dX11_tick_15 hP
  · have hf := ifn hf c2
    refine lv_iload_n hx hb dX11_tick_5 rfl (hl.at 1 rfl) ?_
    refine lv_sipush (v := 999) hx hb dX11_tick_6 (by decide) ?_
    refine lv_icmp_le hx hb (tgt := 16) dX11_tick_9 (by decide) (fun c9 => ?_) (fun c9 => ?_)
    · have hf := ifp hf c9
      refine rw_aload_n X dX11_tick_16 rfl (hl.at 0 rfl) ?_
      obtain ⟨v17, e17, hf⟩ := ob hf
      refine rw_getR X dX11_tick_17 fl11_49 e17 rfl hP ?_
      refine lv_iconst (v := 0) hx hb dX11_tick_20 (by decide) ?_
      obtain ⟨u21, r21, hf⟩ := ob hf
      obtain ⟨v21, e21, hf⟩ := ob hf
      refine rw_callVr (As := [.int 0]) X dX11_tick_21 clX11_93 pyX8_nodeAt (mX8_nodeAt l e21) (by decide) r21 rfl hP rfl (catL c1n (Nat.le_of_ble_eq_true rfl)) hl.1.1 (fun H locs hP => ?_)
      refine rv_astore_n X dX11_tick_24 rfl hl (by decide) rfl (fun ls hl => ?_)
      have hl : LV ls 3 [(2, va_rf v21), (0, va_rf l0), (1, .int l1)] := hl
      refine rw_aload_n X dX11_tick_25 rfl (hl.at 0 rfl) ?_
      refine rw_ifnonnull X (tgt := 35) dX11_tick_26 (by decide) (fun c26 => ?_) (fun c26 => ?_)
      · have hf := ifn hf c26
        refine rw_aload_n X dX11_tick_35 rfl (hl.at 1 rfl) ?_
        obtain ⟨v36, e36, hf⟩ := ob hf
        refine rw_getR X dX11_tick_36 fl11_22 e36 rfl hP ?_
        refine rw_aload_n X dX11_tick_39 rfl (hl.at 0 rfl) ?_
        refine lv_iload_n hx hb dX11_tick_40 rfl (hl.at 2 rfl) ?_
        obtain ⟨u41, r41, hf⟩ := ob hf
        obtain ⟨q41, e41, hf⟩ := ob hf
        refine rw_callVi (As := [va_rf v21, .int l1]) X dX11_tick_41 clX11_102 pyX9_perform (mX9_perform l e41) (by decide) r41 rfl hP rfl (catL c1n (Nat.le_of_ble_eq_true rfl)) hl.1.1 (fun H locs hP => ?_)
        cases hf
        exact rw_iret X dX11_tick_44 hP
      · have hf := ifp hf c26
        refine lv_sipush (v := (-1004)) hx hb dX11_tick_29 (by decide) ?_
        refine lv_goto (tgt := 44) hx hb dX11_tick_32 (by decide) ?_
        cases hf
        exact rw_iret X dX11_tick_44 hP
    · have hf := ifn hf c9
      refine lv_sipush (v := (-1002)) hx hb dX11_tick_12 (by decide) ?_
      cases hf
      exact rw_iret X dX11_tick_15 hP
theorem dX11_run_0 : decode cX11_run 0 = .ok (.iload_n 1, 1) := by decide +kernel
theorem dX11_run_1 : decode cX11_run 1 = .ok (.iconst 1, 1) := by decide +kernel
theorem dX11_run_2 : decode cX11_run 2 = .ok (.if_icmp .lt 9, 3) := by decide +kernel
theorem dX11_run_5 : decode cX11_run 5 = .ok (.iload_n 1, 1) := by decide +kernel
theorem dX11_run_6 : decode cX11_run 6 = .ok (.bipush 50, 2) := by decide +kernel
theorem dX11_run_8 : decode cX11_run 8 = .ok (.if_icmp .le 7, 3) := by decide +kernel
theorem dX11_run_11 : decode cX11_run 11 = .ok (.sipush (-1002), 3) := by decide +kernel
theorem dX11_run_14 : decode cX11_run 14 = .ok (.ireturn, 1) := by decide +kernel
theorem dX11_run_15 : decode cX11_run 15 = .ok (.aload_n 0, 1) := by decide +kernel
theorem dX11_run_16 : decode cX11_run 16 = .ok (.getfield 49, 3) := by decide +kernel
theorem dX11_run_19 : decode cX11_run 19 = .ok (.iconst 0, 1) := by decide +kernel
theorem dX11_run_20 : decode cX11_run 20 = .ok (.invokevirtual 93, 3) := by decide +kernel
theorem dX11_run_23 : decode cX11_run 23 = .ok (.astore_n 2, 1) := by decide +kernel
theorem dX11_run_24 : decode cX11_run 24 = .ok (.aload_n 2, 1) := by decide +kernel
theorem dX11_run_25 : decode cX11_run 25 = .ok (.ifnonnull 7, 3) := by decide +kernel
theorem dX11_run_28 : decode cX11_run 28 = .ok (.sipush (-1004), 3) := by decide +kernel
theorem dX11_run_31 : decode cX11_run 31 = .ok (.ireturn, 1) := by decide +kernel
theorem dX11_run_32 : decode cX11_run 32 = .ok (.iconst 1, 1) := by decide +kernel
theorem dX11_run_33 : decode cX11_run 33 = .ok (.istore_n 3, 1) := by decide +kernel
theorem dX11_run_34 : decode cX11_run 34 = .ok (.iconst 0, 1) := by decide +kernel
theorem dX11_run_35 : decode cX11_run 35 = .ok (.istore 4, 2) := by decide +kernel
theorem dX11_run_37 : decode cX11_run 37 = .ok (.iload 4, 2) := by decide +kernel
theorem dX11_run_39 : decode cX11_run 39 = .ok (.iload_n 1, 1) := by decide +kernel
theorem dX11_run_40 : decode cX11_run 40 = .ok (.if_icmp .ge 25, 3) := by decide +kernel
theorem dX11_run_43 : decode cX11_run 43 = .ok (.iload_n 3, 1) := by decide +kernel
theorem dX11_run_44 : decode cX11_run 44 = .ok (.iconst 1, 1) := by decide +kernel
theorem dX11_run_45 : decode cX11_run 45 = .ok (.if_icmp .ne 20, 3) := by decide +kernel
theorem dX11_run_48 : decode cX11_run 48 = .ok (.aload_n 0, 1) := by decide +kernel
theorem dX11_run_49 : decode cX11_run 49 = .ok (.getfield 22, 3) := by decide +kernel
theorem dX11_run_52 : decode cX11_run 52 = .ok (.aload_n 2, 1) := by decide +kernel
theorem dX11_run_53 : decode cX11_run 53 = .ok (.ldc 105, 2) := by decide +kernel
theorem dX11_run_55 : decode cX11_run 55 = .ok (.invokevirtual 102, 3) := by decide +kernel
theorem dX11_run_58 : decode cX11_run 58 = .ok (.istore_n 3, 1) := by decide +kernel
theorem dX11_run_59 : decode cX11_run 59 = .ok (.iinc 4 1, 3) := by decide +kernel
theorem dX11_run_62 : decode cX11_run 62 = .ok (.goto (-25), 3) := by decide +kernel
theorem dX11_run_65 : decode cX11_run 65 = .ok (.iload_n 3, 1) := by decide +kernel
theorem dX11_run_66 : decode cX11_run 66 = .ok (.ireturn, 1) := by decide +kernel
theorem pyX11_run : PY yX11_run 1 := ⟨by decide +kernel, by decide +kernel, by decide +kernel⟩
def fX11_run_37 (Y : LY) : Nat → HS → Option Nat → Int32 → Option Nat → Int32 → Int32 → Option (HS × Int32)
  | 0, _, _, _, _, _, _ => none
  | n + 1, S, l0, l1, l2, l3, l4 =>
    if l1 ≤ l4 then
      some (S, l3)
    else
      if l3 = 1 then
        (gR Y 11 1102 l0 S).bind fun v49 =>
        (rcv Y 9 v49).bind fun _ =>
        (fX9_perform Y S v49 l2 1000000).bind fun q55 =>
        fX11_run_37 Y n q55.1 l0 l1 l2 q55.2 (l4 + 1)
      else
        some (S, l3)
set_option maxRecDepth 100000 in
set_option maxHeartbeats 4000000 in
theorem wX11_run_37 {p : Program} {l : Launch} {e : Env} {R : Room} {s : State} {m : MethodId} {args : Array Value} {below : List Frame} {meth : Method} {c : Code} {G : GG} {Y : LY} {res : HS × Int32} (X : Cx p R s m args meth c RX11 cX11_run 5 7 172 (fun q => q ∈ Y.1) G (some .int)) : ∀ (n : Nat) (S : HS) (l0 : Option Nat) (l1 : Int32) (l2 : Option Nat) (l3 : Int32) (l4 : Int32), fX11_run_37 Y n S l0 l1 l2 l3 l4 = some res → ∀ (H : Heap) (locs : List Loc) (ls : Array Slot), HP (fun q => q ∈ Y.1) G Y s S H locs → LV ls 5 [(0, va_rf l0), (1, .int l1), (2, va_rf l2), (3, .int l3), (4, .int l4)] → W p l e R s m args below meth c H locs 0 0 (MQ below (QI G Y res.1 (some (.int res.2))) args s 0 0 (fun q => q ∈ Y.1)) (F0 m 37 ls []) := by
  have hx := X.1.1
  have hb := X.1.2.1
  intro n
  induction n with
  | zero =>
    intro S l0 l1 l2 l3 l4 hf
    cases hf
  | succ n ih =>
    intro S l0 l1 l2 l3 l4 hf H locs ls hP hl
    rw [fX11_run_37] at hf
    refine lv_iload hx hb dX11_run_37 (hl.at 4 rfl) ?_
    refine lv_iload_n hx hb dX11_run_39 rfl (hl.at 1 rfl) ?_
    refine lv_icmp_ge hx hb (tgt := 65) dX11_run_40 (by decide) (fun c40 => ?_) (fun c40 => ?_)
    · have hf := ifp hf c40
      refine lv_iload_n hx hb dX11_run_65 rfl (hl.at 3 rfl) ?_
      cases hf
      exact rw_iret X dX11_run_66 hP
    · have hf := ifn hf c40
      refine lv_iload_n hx hb dX11_run_43 rfl (hl.at 3 rfl) ?_
      refine lv_iconst (v := 1) hx hb dX11_run_44 (by decide) ?_
      refine lv_icmp_ne hx hb (tgt := 65) dX11_run_45 (by decide) (fun c45 => ?_) (fun c45 => ?_)
      · have hf := ifn hf c45
        refine lv_iload_n hx hb dX11_run_65 rfl (hl.at 3 rfl) ?_
        cases hf
        exact rw_iret X dX11_run_66 hP
      · have hf := ifp hf c45
        refine rw_aload_n X dX11_run_48 rfl (hl.at 0 rfl) ?_
        obtain ⟨v49, e49, hf⟩ := ob hf
        refine rw_getR X dX11_run_49 fl11_22 e49 rfl hP ?_
        refine rw_aload_n X dX11_run_52 rfl (hl.at 2 rfl) ?_
        refine rw_ldc X kX11_105 dX11_run_53 ?_
        obtain ⟨u55, r55, hf⟩ := ob hf
        obtain ⟨q55, e55, hf⟩ := ob hf
        refine rw_callVi (As := [va_rf l2, .int 1000000]) X dX11_run_55 clX11_102 pyX9_perform (mX9_perform l e55) (by decide) r55 rfl hP rfl (catL c1n (Nat.le_of_ble_eq_true rfl)) hl.1.1 (fun H locs hP => ?_)
        refine rv_istore_n X dX11_run_58 rfl hl (by decide) rfl (fun ls hl => ?_)
        have hl : LV ls 5 [(3, .int q55.2), (0, va_rf l0), (1, .int l1), (2, va_rf l2), (4, .int l4)] := hl
        refine rv_iinc (k := 4) (d := 1) X dX11_run_59 hl rfl (by decide) (by decide) rfl (fun ls hl => ?_)
        have hl : LV ls 5 [(4, .int (l4 + 1)), (3, .int q55.2), (0, va_rf l0), (1, .int l1), (2, va_rf l2)] := hl
        refine lv_goto (tgt := 37) hx hb dX11_run_62 (by decide) ?_
        exact ih q55.1 l0 l1 l2 q55.2 (l4 + 1) hf _ _ _ hP (hl.sub [2, 3, 4, 1, 0] rfl)
def fX11_run (Y : LY) (S : HS) (l0 : Option Nat) (l1 : Int32) : Option (HS × Int32) :=
  if l1 < 1 then
    some (S, (-1002))
  else
    if l1 ≤ 50 then
      (gR Y 11 1107 l0 S).bind fun v16 =>
      (rcv Y 8 v16).bind fun _ =>
      (fX8_nodeAt Y S v16 0).bind fun v20 =>
      if v20 = none then
        some (S, (-1004))
      else
        fX11_run_37 Y FU S l0 l1 v20 1 0
    else
      some (S, (-1002))
set_option maxRecDepth 100000 in
set_option maxHeartbeats 4000000 in
theorem mX11_run (l : Launch) {G : GG} {Y : LY} {S : HS} {l0 : Option Nat} {l1 : Int32} {res : HS × Int32} (hf : fX11_run Y S l0 l1 = some res) : MM l yX11_run cX11_run 5 (some .int) 7 172 G Y S [va_rf l0, .int l1] res.1 (some (.int res.2)) := by
  refine mm_of2 (plainFor_of_name (by decide +kernel)) (Nat.le_of_ble_eq_true rfl) (c1c (cr _) (c1c (ci _) c1n)) ?_
  intro p e R s m args below meth c X H locs ls hP hl
  have X : Cx p R s m args meth c RX11 cX11_run 5 7 172 (fun q => q ∈ Y.1) G (some .int) := X
  have hx := X.1.1
  have hb := X.1.2.1
  have hl : LV ls 5 [(0, va_rf l0), (1, .int l1)] := hl
  unfold fX11_run at hf
  refine lv_iload_n hx hb dX11_run_0 rfl (hl.at 1 rfl) ?_
  refine lv_iconst (v := 1) hx hb dX11_run_1 (by decide) ?_
  refine lv_icmp_lt hx hb (tgt := 11) dX11_run_2 (by decide) (fun c2 => ?_) (fun c2 => ?_)
  · have hf := ifp hf c2
    refine lv_sipush (v := (-1002)) hx hb dX11_run_11 (by decide) ?_
    cases hf
    exact rw_iret X dX11_run_14 hP
  · have hf := ifn hf c2
    refine lv_iload_n hx hb dX11_run_5 rfl (hl.at 1 rfl) ?_
    refine lv_bipush (v := 50) hx hb dX11_run_6 (by decide) ?_
    refine lv_icmp_le hx hb (tgt := 15) dX11_run_8 (by decide) (fun c8 => ?_) (fun c8 => ?_)
    · have hf := ifp hf c8
      refine rw_aload_n X dX11_run_15 rfl (hl.at 0 rfl) ?_
      obtain ⟨v16, e16, hf⟩ := ob hf
      refine rw_getR X dX11_run_16 fl11_49 e16 rfl hP ?_
      refine lv_iconst (v := 0) hx hb dX11_run_19 (by decide) ?_
      obtain ⟨u20, r20, hf⟩ := ob hf
      obtain ⟨v20, e20, hf⟩ := ob hf
      refine rw_callVr (As := [.int 0]) X dX11_run_20 clX11_93 pyX8_nodeAt (mX8_nodeAt l e20) (by decide) r20 rfl hP rfl (catL c1n (Nat.le_of_ble_eq_true rfl)) hl.1.1 (fun H locs hP => ?_)
      refine rv_astore_n X dX11_run_23 rfl hl (by decide) rfl (fun ls hl => ?_)
      have hl : LV ls 5 [(2, va_rf v20), (0, va_rf l0), (1, .int l1)] := hl
      refine rw_aload_n X dX11_run_24 rfl (hl.at 0 rfl) ?_
      refine rw_ifnonnull X (tgt := 32) dX11_run_25 (by decide) (fun c25 => ?_) (fun c25 => ?_)
      · have hf := ifn hf c25
        refine lv_iconst (v := 1) hx hb dX11_run_32 (by decide) ?_
        refine rv_istore_n X dX11_run_33 rfl hl (by decide) rfl (fun ls hl => ?_)
        have hl : LV ls 5 [(3, .int 1), (2, va_rf v20), (0, va_rf l0), (1, .int l1)] := hl
        refine lv_iconst (v := 0) hx hb dX11_run_34 (by decide) ?_
        refine rv_istore X dX11_run_35 hl (by decide) rfl (fun ls hl => ?_)
        have hl : LV ls 5 [(4, .int 0), (3, .int 1), (2, va_rf v20), (0, va_rf l0), (1, .int l1)] := hl
        exact wX11_run_37 X FU S l0 l1 v20 1 0 hf _ _ _ hP (hl.sub [3, 4, 2, 1, 0] rfl)
      · have hf := ifp hf c25
        refine lv_sipush (v := (-1004)) hx hb dX11_run_28 (by decide) ?_
        cases hf
        exact rw_iret X dX11_run_31 hP
    · have hf := ifn hf c8
      refine lv_sipush (v := (-1002)) hx hb dX11_run_11 (by decide) ?_
      cases hf
      exact rw_iret X dX11_run_14 hP
theorem dX11_foresee_0 : decode cX11_foresee 0 = .ok (.aload_n 0, 1) := by decide +kernel
theorem dX11_foresee_1 : decode cX11_foresee 1 = .ok (.getfield 49, 3) := by decide +kernel
theorem dX11_foresee_4 : decode cX11_foresee 4 = .ok (.iconst 0, 1) := by decide +kernel
theorem dX11_foresee_5 : decode cX11_foresee 5 = .ok (.invokevirtual 93, 3) := by decide +kernel
theorem dX11_foresee_8 : decode cX11_foresee 8 = .ok (.astore_n 1, 1) := by decide +kernel
theorem dX11_foresee_9 : decode cX11_foresee 9 = .ok (.aload_n 1, 1) := by decide +kernel
theorem dX11_foresee_10 : decode cX11_foresee 10 = .ok (.ifnonnull 7, 3) := by decide +kernel
theorem dX11_foresee_13 : decode cX11_foresee 13 = .ok (.sipush (-1004), 3) := by decide +kernel
theorem dX11_foresee_16 : decode cX11_foresee 16 = .ok (.ireturn, 1) := by decide +kernel
theorem dX11_foresee_17 : decode cX11_foresee 17 = .ok (.aload_n 0, 1) := by decide +kernel
theorem dX11_foresee_18 : decode cX11_foresee 18 = .ok (.getfield 43, 3) := by decide +kernel
theorem dX11_foresee_21 : decode cX11_foresee 21 = .ok (.aload_n 0, 1) := by decide +kernel
theorem dX11_foresee_22 : decode cX11_foresee 22 = .ok (.getfield 49, 3) := by decide +kernel
theorem dX11_foresee_25 : decode cX11_foresee 25 = .ok (.aload_n 0, 1) := by decide +kernel
theorem dX11_foresee_26 : decode cX11_foresee 26 = .ok (.getfield 30, 3) := by decide +kernel
theorem dX11_foresee_29 : decode cX11_foresee 29 = .ok (.aload_n 0, 1) := by decide +kernel
theorem dX11_foresee_30 : decode cX11_foresee 30 = .ok (.getfield 35, 3) := by decide +kernel
theorem dX11_foresee_33 : decode cX11_foresee 33 = .ok (.invokevirtual 106, 3) := by decide +kernel
theorem dX11_foresee_36 : decode cX11_foresee 36 = .ok (.aload_n 0, 1) := by decide +kernel
theorem dX11_foresee_37 : decode cX11_foresee 37 = .ok (.getfield 22, 3) := by decide +kernel
theorem dX11_foresee_40 : decode cX11_foresee 40 = .ok (.aload_n 1, 1) := by decide +kernel
theorem dX11_foresee_41 : decode cX11_foresee 41 = .ok (.ldc 105, 2) := by decide +kernel
theorem dX11_foresee_43 : decode cX11_foresee 43 = .ok (.invokevirtual 102, 3) := by decide +kernel
theorem dX11_foresee_46 : decode cX11_foresee 46 = .ok (.istore_n 2, 1) := by decide +kernel
theorem dX11_foresee_47 : decode cX11_foresee 47 = .ok (.aload_n 0, 1) := by decide +kernel
theorem dX11_foresee_48 : decode cX11_foresee 48 = .ok (.getfield 43, 3) := by decide +kernel
theorem dX11_foresee_51 : decode cX11_foresee 51 = .ok (.aload_n 0, 1) := by decide +kernel
theorem dX11_foresee_52 : decode cX11_foresee 52 = .ok (.getfield 49, 3) := by decide +kernel
theorem dX11_foresee_55 : decode cX11_foresee 55 = .ok (.aload_n 0, 1) := by decide +kernel
theorem dX11_foresee_56 : decode cX11_foresee 56 = .ok (.getfield 30, 3) := by decide +kernel
theorem dX11_foresee_59 : decode cX11_foresee 59 = .ok (.aload_n 0, 1) := by decide +kernel
theorem dX11_foresee_60 : decode cX11_foresee 60 = .ok (.getfield 35, 3) := by decide +kernel
theorem dX11_foresee_63 : decode cX11_foresee 63 = .ok (.invokevirtual 110, 3) := by decide +kernel
theorem dX11_foresee_66 : decode cX11_foresee 66 = .ok (.iload_n 2, 1) := by decide +kernel
theorem dX11_foresee_67 : decode cX11_foresee 67 = .ok (.ireturn, 1) := by decide +kernel
theorem pyX11_foresee : PY yX11_foresee 0 := ⟨by decide +kernel, by decide +kernel, by decide +kernel⟩
def fX11_foresee (Y : LY) (S : HS) (l0 : Option Nat) : Option (HS × Int32) :=
  (gR Y 11 1107 l0 S).bind fun v1 =>
  (rcv Y 8 v1).bind fun _ =>
  (fX8_nodeAt Y S v1 0).bind fun v5 =>
  if v5 = none then
    some (S, (-1004))
  else
    (gR Y 11 1106 l0 S).bind fun v18 =>
    (gR Y 11 1107 l0 S).bind fun v22 =>
    (gR Y 11 1103 l0 S).bind fun v26 =>
    (gR Y 11 1104 l0 S).bind fun v30 =>
    (rcv Y 6 v18).bind fun _ =>
    (fX6_take Y S v18 v22 v26 v30).bind fun S33 =>
    (gR Y 11 1102 l0 S33).bind fun v37 =>
    (rcv Y 9 v37).bind fun _ =>
    (fX9_perform Y S33 v37 v5 1000000).bind fun q43 =>
    (gR Y 11 1106 l0 q43.1).bind fun v48 =>
    (gR Y 11 1107 l0 q43.1).bind fun v52 =>
    (gR Y 11 1103 l0 q43.1).bind fun v56 =>
    (gR Y 11 1104 l0 q43.1).bind fun v60 =>
    (rcv Y 6 v48).bind fun _ =>
    (fX6_giveBack Y q43.1 v48 v52 v56 v60).bind fun S63 =>
    some (S63, q43.2)
set_option maxRecDepth 100000 in
set_option maxHeartbeats 4000000 in
theorem mX11_foresee (l : Launch) {G : GG} {Y : LY} {S : HS} {l0 : Option Nat} {res : HS × Int32} (hf : fX11_foresee Y S l0 = some res) : MM l yX11_foresee cX11_foresee 3 (some .int) 7 172 G Y S [va_rf l0] res.1 (some (.int res.2)) := by
  refine mm_of2 (plainFor_of_name (by decide +kernel)) (Nat.le_of_ble_eq_true rfl) (c1c (cr _) c1n) ?_
  intro p e R s m args below meth c X H locs ls hP hl
  have X : Cx p R s m args meth c RX11 cX11_foresee 3 7 172 (fun q => q ∈ Y.1) G (some .int) := X
  have hx := X.1.1
  have hb := X.1.2.1
  have hl : LV ls 3 [(0, va_rf l0)] := hl
  unfold fX11_foresee at hf
  refine rw_aload_n X dX11_foresee_0 rfl (hl.at 0 rfl) ?_
  obtain ⟨v1, e1, hf⟩ := ob hf
  refine rw_getR X dX11_foresee_1 fl11_49 e1 rfl hP ?_
  refine lv_iconst (v := 0) hx hb dX11_foresee_4 (by decide) ?_
  obtain ⟨u5, r5, hf⟩ := ob hf
  obtain ⟨v5, e5, hf⟩ := ob hf
  refine rw_callVr (As := [.int 0]) X dX11_foresee_5 clX11_93 pyX8_nodeAt (mX8_nodeAt l e5) (by decide) r5 rfl hP rfl (catL c1n (Nat.le_of_ble_eq_true rfl)) hl.1.1 (fun H locs hP => ?_)
  refine rv_astore_n X dX11_foresee_8 rfl hl (by decide) rfl (fun ls hl => ?_)
  have hl : LV ls 3 [(1, va_rf v5), (0, va_rf l0)] := hl
  refine rw_aload_n X dX11_foresee_9 rfl (hl.at 0 rfl) ?_
  refine rw_ifnonnull X (tgt := 17) dX11_foresee_10 (by decide) (fun c10 => ?_) (fun c10 => ?_)
  · have hf := ifn hf c10
    refine rw_aload_n X dX11_foresee_17 rfl (hl.at 1 rfl) ?_
    obtain ⟨v18, e18, hf⟩ := ob hf
    refine rw_getR X dX11_foresee_18 fl11_43 e18 rfl hP ?_
    refine rw_aload_n X dX11_foresee_21 rfl (hl.at 1 rfl) ?_
    obtain ⟨v22, e22, hf⟩ := ob hf
    refine rw_getR X dX11_foresee_22 fl11_49 e22 rfl hP ?_
    refine rw_aload_n X dX11_foresee_25 rfl (hl.at 1 rfl) ?_
    obtain ⟨v26, e26, hf⟩ := ob hf
    refine rw_getR X dX11_foresee_26 fl11_30 e26 rfl hP ?_
    refine rw_aload_n X dX11_foresee_29 rfl (hl.at 1 rfl) ?_
    obtain ⟨v30, e30, hf⟩ := ob hf
    refine rw_getR X dX11_foresee_30 fl11_35 e30 rfl hP ?_
    obtain ⟨u33, r33, hf⟩ := ob hf
    obtain ⟨S33, e33, hf⟩ := ob hf
    refine rw_callVv (As := [va_rf v22, va_rf v26, va_rf v30]) X dX11_foresee_33 clX11_106 pyX6_take (mX6_take l e33) (by decide) r33 rfl hP rfl (catL c1n (Nat.le_of_ble_eq_true rfl)) hl.1.1 (fun H locs hP => ?_)
    refine rw_aload_n X dX11_foresee_36 rfl (hl.at 1 rfl) ?_
    obtain ⟨v37, e37, hf⟩ := ob hf
    refine rw_getR X dX11_foresee_37 fl11_22 e37 rfl hP ?_
    refine rw_aload_n X dX11_foresee_40 rfl (hl.at 0 rfl) ?_
    refine rw_ldc X kX11_105 dX11_foresee_41 ?_
    obtain ⟨u43, r43, hf⟩ := ob hf
    obtain ⟨q43, e43, hf⟩ := ob hf
    refine rw_callVi (As := [va_rf v5, .int 1000000]) X dX11_foresee_43 clX11_102 pyX9_perform (mX9_perform l e43) (by decide) r43 rfl hP rfl (catL c1n (Nat.le_of_ble_eq_true rfl)) hl.1.1 (fun H locs hP => ?_)
    refine rv_istore_n X dX11_foresee_46 rfl hl (by decide) rfl (fun ls hl => ?_)
    have hl : LV ls 3 [(2, .int q43.2), (1, va_rf v5), (0, va_rf l0)] := hl
    refine rw_aload_n X dX11_foresee_47 rfl (hl.at 2 rfl) ?_
    obtain ⟨v48, e48, hf⟩ := ob hf
    refine rw_getR X dX11_foresee_48 fl11_43 e48 rfl hP ?_
    refine rw_aload_n X dX11_foresee_51 rfl (hl.at 2 rfl) ?_
    obtain ⟨v52, e52, hf⟩ := ob hf
    refine rw_getR X dX11_foresee_52 fl11_49 e52 rfl hP ?_
    refine rw_aload_n X dX11_foresee_55 rfl (hl.at 2 rfl) ?_
    obtain ⟨v56, e56, hf⟩ := ob hf
    refine rw_getR X dX11_foresee_56 fl11_30 e56 rfl hP ?_
    refine rw_aload_n X dX11_foresee_59 rfl (hl.at 2 rfl) ?_
    obtain ⟨v60, e60, hf⟩ := ob hf
    refine rw_getR X dX11_foresee_60 fl11_35 e60 rfl hP ?_
    obtain ⟨u63, r63, hf⟩ := ob hf
    obtain ⟨S63, e63, hf⟩ := ob hf
    refine rw_callVv (As := [va_rf v52, va_rf v56, va_rf v60]) X dX11_foresee_63 clX11_110 pyX6_giveBack (mX6_giveBack l e63) (by decide) r63 rfl hP rfl (catL c1n (Nat.le_of_ble_eq_true rfl)) hl.1.1 (fun H locs hP => ?_)
    refine lv_iload_n hx hb dX11_foresee_66 rfl (hl.at 0 rfl) ?_
    cases hf
    exact rw_iret X dX11_foresee_67 hP
  · have hf := ifp hf c10
    refine lv_sipush (v := (-1004)) hx hb dX11_foresee_13 (by decide) ?_
    cases hf
    exact rw_iret X dX11_foresee_16 hP
theorem dX11_ticksToGo_0 : decode cX11_ticksToGo 0 = .ok (.aload_n 0, 1) := by decide +kernel
theorem dX11_ticksToGo_1 : decode cX11_ticksToGo 1 = .ok (.getfield 49, 3) := by decide +kernel
theorem dX11_ticksToGo_4 : decode cX11_ticksToGo 4 = .ok (.iconst 0, 1) := by decide +kernel
theorem dX11_ticksToGo_5 : decode cX11_ticksToGo 5 = .ok (.invokevirtual 93, 3) := by decide +kernel
theorem dX11_ticksToGo_8 : decode cX11_ticksToGo 8 = .ok (.astore_n 1, 1) := by decide +kernel
theorem dX11_ticksToGo_9 : decode cX11_ticksToGo 9 = .ok (.aload_n 1, 1) := by decide +kernel
theorem dX11_ticksToGo_10 : decode cX11_ticksToGo 10 = .ok (.ifnonnull 7, 3) := by decide +kernel
theorem dX11_ticksToGo_13 : decode cX11_ticksToGo 13 = .ok (.sipush (-1004), 3) := by decide +kernel
theorem dX11_ticksToGo_16 : decode cX11_ticksToGo 16 = .ok (.ireturn, 1) := by decide +kernel
theorem dX11_ticksToGo_17 : decode cX11_ticksToGo 17 = .ok (.aload_n 0, 1) := by decide +kernel
theorem dX11_ticksToGo_18 : decode cX11_ticksToGo 18 = .ok (.getfield 43, 3) := by decide +kernel
theorem dX11_ticksToGo_21 : decode cX11_ticksToGo 21 = .ok (.aload_n 0, 1) := by decide +kernel
theorem dX11_ticksToGo_22 : decode cX11_ticksToGo 22 = .ok (.getfield 49, 3) := by decide +kernel
theorem dX11_ticksToGo_25 : decode cX11_ticksToGo 25 = .ok (.aload_n 0, 1) := by decide +kernel
theorem dX11_ticksToGo_26 : decode cX11_ticksToGo 26 = .ok (.getfield 30, 3) := by decide +kernel
theorem dX11_ticksToGo_29 : decode cX11_ticksToGo 29 = .ok (.aload_n 0, 1) := by decide +kernel
theorem dX11_ticksToGo_30 : decode cX11_ticksToGo 30 = .ok (.getfield 35, 3) := by decide +kernel
theorem dX11_ticksToGo_33 : decode cX11_ticksToGo 33 = .ok (.invokevirtual 106, 3) := by decide +kernel
theorem dX11_ticksToGo_36 : decode cX11_ticksToGo 36 = .ok (.iconst 1, 1) := by decide +kernel
theorem dX11_ticksToGo_37 : decode cX11_ticksToGo 37 = .ok (.istore_n 2, 1) := by decide +kernel
theorem dX11_ticksToGo_38 : decode cX11_ticksToGo 38 = .ok (.iconst 0, 1) := by decide +kernel
theorem dX11_ticksToGo_39 : decode cX11_ticksToGo 39 = .ok (.istore_n 3, 1) := by decide +kernel
theorem dX11_ticksToGo_40 : decode cX11_ticksToGo 40 = .ok (.iload_n 3, 1) := by decide +kernel
theorem dX11_ticksToGo_41 : decode cX11_ticksToGo 41 = .ok (.bipush 50, 2) := by decide +kernel
theorem dX11_ticksToGo_43 : decode cX11_ticksToGo 43 = .ok (.if_icmp .ge 25, 3) := by decide +kernel
theorem dX11_ticksToGo_46 : decode cX11_ticksToGo 46 = .ok (.iload_n 2, 1) := by decide +kernel
theorem dX11_ticksToGo_47 : decode cX11_ticksToGo 47 = .ok (.iconst 1, 1) := by decide +kernel
theorem dX11_ticksToGo_48 : decode cX11_ticksToGo 48 = .ok (.if_icmp .ne 20, 3) := by decide +kernel
theorem dX11_ticksToGo_51 : decode cX11_ticksToGo 51 = .ok (.iinc 3 1, 3) := by decide +kernel
theorem dX11_ticksToGo_54 : decode cX11_ticksToGo 54 = .ok (.aload_n 0, 1) := by decide +kernel
theorem dX11_ticksToGo_55 : decode cX11_ticksToGo 55 = .ok (.getfield 22, 3) := by decide +kernel
theorem dX11_ticksToGo_58 : decode cX11_ticksToGo 58 = .ok (.aload_n 1, 1) := by decide +kernel
theorem dX11_ticksToGo_59 : decode cX11_ticksToGo 59 = .ok (.ldc 105, 2) := by decide +kernel
theorem dX11_ticksToGo_61 : decode cX11_ticksToGo 61 = .ok (.invokevirtual 102, 3) := by decide +kernel
theorem dX11_ticksToGo_64 : decode cX11_ticksToGo 64 = .ok (.istore_n 2, 1) := by decide +kernel
theorem dX11_ticksToGo_65 : decode cX11_ticksToGo 65 = .ok (.goto (-25), 3) := by decide +kernel
theorem dX11_ticksToGo_68 : decode cX11_ticksToGo 68 = .ok (.aload_n 0, 1) := by decide +kernel
theorem dX11_ticksToGo_69 : decode cX11_ticksToGo 69 = .ok (.getfield 43, 3) := by decide +kernel
theorem dX11_ticksToGo_72 : decode cX11_ticksToGo 72 = .ok (.aload_n 0, 1) := by decide +kernel
theorem dX11_ticksToGo_73 : decode cX11_ticksToGo 73 = .ok (.getfield 49, 3) := by decide +kernel
theorem dX11_ticksToGo_76 : decode cX11_ticksToGo 76 = .ok (.aload_n 0, 1) := by decide +kernel
theorem dX11_ticksToGo_77 : decode cX11_ticksToGo 77 = .ok (.getfield 30, 3) := by decide +kernel
theorem dX11_ticksToGo_80 : decode cX11_ticksToGo 80 = .ok (.aload_n 0, 1) := by decide +kernel
theorem dX11_ticksToGo_81 : decode cX11_ticksToGo 81 = .ok (.getfield 35, 3) := by decide +kernel
theorem dX11_ticksToGo_84 : decode cX11_ticksToGo 84 = .ok (.invokevirtual 110, 3) := by decide +kernel
theorem dX11_ticksToGo_87 : decode cX11_ticksToGo 87 = .ok (.iload_n 2, 1) := by decide +kernel
theorem dX11_ticksToGo_88 : decode cX11_ticksToGo 88 = .ok (.iconst 1, 1) := by decide +kernel
theorem dX11_ticksToGo_89 : decode cX11_ticksToGo 89 = .ok (.if_icmp .ne 7, 3) := by decide +kernel
theorem dX11_ticksToGo_92 : decode cX11_ticksToGo 92 = .ok (.iconst 0, 1) := by decide +kernel
theorem dX11_ticksToGo_93 : decode cX11_ticksToGo 93 = .ok (.goto 4, 3) := by decide +kernel
theorem dX11_ticksToGo_96 : decode cX11_ticksToGo 96 = .ok (.iload_n 3, 1) := by decide +kernel
theorem dX11_ticksToGo_97 : decode cX11_ticksToGo 97 = .ok (.ireturn, 1) := by decide +kernel
theorem pyX11_ticksToGo : PY yX11_ticksToGo 0 := ⟨by decide +kernel, by decide +kernel, by decide +kernel⟩
def fX11_ticksToGo_68 (Y : LY) (S : HS) (l0 : Option Nat) (l2 : Int32) (l3 : Int32) : Option (HS × Int32) :=
  (gR Y 11 1106 l0 S).bind fun v69 =>
  (gR Y 11 1107 l0 S).bind fun v73 =>
  (gR Y 11 1103 l0 S).bind fun v77 =>
  (gR Y 11 1104 l0 S).bind fun v81 =>
  (rcv Y 6 v69).bind fun _ =>
  (fX6_giveBack Y S v69 v73 v77 v81).bind fun S84 =>
  if l2 = 1 then
    some (S84, 0)
  else
    some (S84, l3)
set_option maxRecDepth 100000 in
set_option maxHeartbeats 4000000 in
theorem wX11_ticksToGo_68 {p : Program} {l : Launch} {e : Env} {R : Room} {s : State} {m : MethodId} {args : Array Value} {below : List Frame} {meth : Method} {c : Code} {G : GG} {Y : LY} {res : HS × Int32} (X : Cx p R s m args meth c RX11 cX11_ticksToGo 4 7 172 (fun q => q ∈ Y.1) G (some .int)) : ∀ (S : HS) (l0 : Option Nat) (l2 : Int32) (l3 : Int32), fX11_ticksToGo_68 Y S l0 l2 l3 = some res → ∀ (H : Heap) (locs : List Loc) (ls : Array Slot), HP (fun q => q ∈ Y.1) G Y s S H locs → LV ls 4 [(0, va_rf l0), (2, .int l2), (3, .int l3)] → W p l e R s m args below meth c H locs 0 0 (MQ below (QI G Y res.1 (some (.int res.2))) args s 0 0 (fun q => q ∈ Y.1)) (F0 m 68 ls []) := by
  have hx := X.1.1
  have hb := X.1.2.1
  intro S l0 l2 l3 hf H locs ls hP hl
  unfold fX11_ticksToGo_68 at hf
  refine rw_aload_n X dX11_ticksToGo_68 rfl (hl.at 0 rfl) ?_
  obtain ⟨v69, e69, hf⟩ := ob hf
  refine rw_getR X dX11_ticksToGo_69 fl11_43 e69 rfl hP ?_
  refine rw_aload_n X dX11_ticksToGo_72 rfl (hl.at 0 rfl) ?_
  obtain ⟨v73, e73, hf⟩ := ob hf
  refine rw_getR X dX11_ticksToGo_73 fl11_49 e73 rfl hP ?_
  refine rw_aload_n X dX11_ticksToGo_76 rfl (hl.at 0 rfl) ?_
  obtain ⟨v77, e77, hf⟩ := ob hf
  refine rw_getR X dX11_ticksToGo_77 fl11_30 e77 rfl hP ?_
  refine rw_aload_n X dX11_ticksToGo_80 rfl (hl.at 0 rfl) ?_
  obtain ⟨v81, e81, hf⟩ := ob hf
  refine rw_getR X dX11_ticksToGo_81 fl11_35 e81 rfl hP ?_
  obtain ⟨u84, r84, hf⟩ := ob hf
  obtain ⟨S84, e84, hf⟩ := ob hf
  refine rw_callVv (As := [va_rf v73, va_rf v77, va_rf v81]) X dX11_ticksToGo_84 clX11_110 pyX6_giveBack (mX6_giveBack l e84) (by decide) r84 rfl hP rfl (catL c1n (Nat.le_of_ble_eq_true rfl)) hl.1.1 (fun H locs hP => ?_)
  refine lv_iload_n hx hb dX11_ticksToGo_87 rfl (hl.at 1 rfl) ?_
  refine lv_iconst (v := 1) hx hb dX11_ticksToGo_88 (by decide) ?_
  refine lv_icmp_ne hx hb (tgt := 96) dX11_ticksToGo_89 (by decide) (fun c89 => ?_) (fun c89 => ?_)
  · have hf := ifn hf c89
    refine lv_iload_n hx hb dX11_ticksToGo_96 rfl (hl.at 2 rfl) ?_
    cases hf
    exact rw_iret X dX11_ticksToGo_97 hP
  · have hf := ifp hf c89
    refine lv_iconst (v := 0) hx hb dX11_ticksToGo_92 (by decide) ?_
    refine lv_goto (tgt := 97) hx hb dX11_ticksToGo_93 (by decide) ?_
    cases hf
    exact rw_iret X dX11_ticksToGo_97 hP
def fX11_ticksToGo_40 (Y : LY) : Nat → HS → Option Nat → Option Nat → Int32 → Int32 → Option (HS × Int32)
  | 0, _, _, _, _, _ => none
  | n + 1, S, l0, l1, l2, l3 =>
    if 50 ≤ l3 then
      fX11_ticksToGo_68 Y S l0 l2 l3
    else
      if l2 = 1 then
        (gR Y 11 1102 l0 S).bind fun v55 =>
        (rcv Y 9 v55).bind fun _ =>
        (fX9_perform Y S v55 l1 1000000).bind fun q61 =>
        fX11_ticksToGo_40 Y n q61.1 l0 l1 q61.2 (l3 + 1)
      else
        fX11_ticksToGo_68 Y S l0 l2 l3
set_option maxRecDepth 100000 in
set_option maxHeartbeats 4000000 in
theorem wX11_ticksToGo_40 {p : Program} {l : Launch} {e : Env} {R : Room} {s : State} {m : MethodId} {args : Array Value} {below : List Frame} {meth : Method} {c : Code} {G : GG} {Y : LY} {res : HS × Int32} (X : Cx p R s m args meth c RX11 cX11_ticksToGo 4 7 172 (fun q => q ∈ Y.1) G (some .int)) : ∀ (n : Nat) (S : HS) (l0 : Option Nat) (l1 : Option Nat) (l2 : Int32) (l3 : Int32), fX11_ticksToGo_40 Y n S l0 l1 l2 l3 = some res → ∀ (H : Heap) (locs : List Loc) (ls : Array Slot), HP (fun q => q ∈ Y.1) G Y s S H locs → LV ls 4 [(0, va_rf l0), (1, va_rf l1), (2, .int l2), (3, .int l3)] → W p l e R s m args below meth c H locs 0 0 (MQ below (QI G Y res.1 (some (.int res.2))) args s 0 0 (fun q => q ∈ Y.1)) (F0 m 40 ls []) := by
  have hx := X.1.1
  have hb := X.1.2.1
  intro n
  induction n with
  | zero =>
    intro S l0 l1 l2 l3 hf
    cases hf
  | succ n ih =>
    intro S l0 l1 l2 l3 hf H locs ls hP hl
    rw [fX11_ticksToGo_40] at hf
    refine lv_iload_n hx hb dX11_ticksToGo_40 rfl (hl.at 3 rfl) ?_
    refine lv_bipush (v := 50) hx hb dX11_ticksToGo_41 (by decide) ?_
    refine lv_icmp_ge hx hb (tgt := 68) dX11_ticksToGo_43 (by decide) (fun c43 => ?_) (fun c43 => ?_)
    · have hf := ifp hf c43
      exact wX11_ticksToGo_68 X S l0 l2 l3 hf _ _ _ hP (hl.sub [0, 2, 3] rfl)
    · have hf := ifn hf c43
      refine lv_iload_n hx hb dX11_ticksToGo_46 rfl (hl.at 2 rfl) ?_
      refine lv_iconst (v := 1) hx hb dX11_ticksToGo_47 (by decide) ?_
      refine lv_icmp_ne hx hb (tgt := 68) dX11_ticksToGo_48 (by decide) (fun c48 => ?_) (fun c48 => ?_)
      · have hf := ifn hf c48
        exact wX11_ticksToGo_68 X S l0 l2 l3 hf _ _ _ hP (hl.sub [0, 2, 3] rfl)
      · have hf := ifp hf c48
        refine rv_iinc (k := 3) (d := 1) X dX11_ticksToGo_51 hl rfl (by decide) (by decide) rfl (fun ls hl => ?_)
        have hl : LV ls 4 [(3, .int (l3 + 1)), (0, va_rf l0), (1, va_rf l1), (2, .int l2)] := hl
        refine rw_aload_n X dX11_ticksToGo_54 rfl (hl.at 1 rfl) ?_
        obtain ⟨v55, e55, hf⟩ := ob hf
        refine rw_getR X dX11_ticksToGo_55 fl11_22 e55 rfl hP ?_
        refine rw_aload_n X dX11_ticksToGo_58 rfl (hl.at 2 rfl) ?_
        refine rw_ldc X kX11_105 dX11_ticksToGo_59 ?_
        obtain ⟨u61, r61, hf⟩ := ob hf
        obtain ⟨q61, e61, hf⟩ := ob hf
        refine rw_callVi (As := [va_rf l1, .int 1000000]) X dX11_ticksToGo_61 clX11_102 pyX9_perform (mX9_perform l e61) (by decide) r61 rfl hP rfl (catL c1n (Nat.le_of_ble_eq_true rfl)) hl.1.1 (fun H locs hP => ?_)
        refine rv_istore_n X dX11_ticksToGo_64 rfl hl (by decide) rfl (fun ls hl => ?_)
        have hl : LV ls 4 [(2, .int q61.2), (3, .int (l3 + 1)), (0, va_rf l0), (1, va_rf l1)] := hl
        refine lv_goto (tgt := 40) hx hb dX11_ticksToGo_65 (by decide) ?_
        exact ih q61.1 l0 l1 q61.2 (l3 + 1) hf _ _ _ hP (hl.sub [2, 3, 0, 1] rfl)
def fX11_ticksToGo (Y : LY) (S : HS) (l0 : Option Nat) : Option (HS × Int32) :=
  (gR Y 11 1107 l0 S).bind fun v1 =>
  (rcv Y 8 v1).bind fun _ =>
  (fX8_nodeAt Y S v1 0).bind fun v5 =>
  if v5 = none then
    some (S, (-1004))
  else
    (gR Y 11 1106 l0 S).bind fun v18 =>
    (gR Y 11 1107 l0 S).bind fun v22 =>
    (gR Y 11 1103 l0 S).bind fun v26 =>
    (gR Y 11 1104 l0 S).bind fun v30 =>
    (rcv Y 6 v18).bind fun _ =>
    (fX6_take Y S v18 v22 v26 v30).bind fun S33 =>
    fX11_ticksToGo_40 Y FU S33 l0 v5 1 0
set_option maxRecDepth 100000 in
set_option maxHeartbeats 4000000 in
theorem mX11_ticksToGo (l : Launch) {G : GG} {Y : LY} {S : HS} {l0 : Option Nat} {res : HS × Int32} (hf : fX11_ticksToGo Y S l0 = some res) : MM l yX11_ticksToGo cX11_ticksToGo 4 (some .int) 7 172 G Y S [va_rf l0] res.1 (some (.int res.2)) := by
  refine mm_of2 (plainFor_of_name (by decide +kernel)) (Nat.le_of_ble_eq_true rfl) (c1c (cr _) c1n) ?_
  intro p e R s m args below meth c X H locs ls hP hl
  have X : Cx p R s m args meth c RX11 cX11_ticksToGo 4 7 172 (fun q => q ∈ Y.1) G (some .int) := X
  have hx := X.1.1
  have hb := X.1.2.1
  have hl : LV ls 4 [(0, va_rf l0)] := hl
  unfold fX11_ticksToGo at hf
  refine rw_aload_n X dX11_ticksToGo_0 rfl (hl.at 0 rfl) ?_
  obtain ⟨v1, e1, hf⟩ := ob hf
  refine rw_getR X dX11_ticksToGo_1 fl11_49 e1 rfl hP ?_
  refine lv_iconst (v := 0) hx hb dX11_ticksToGo_4 (by decide) ?_
  obtain ⟨u5, r5, hf⟩ := ob hf
  obtain ⟨v5, e5, hf⟩ := ob hf
  refine rw_callVr (As := [.int 0]) X dX11_ticksToGo_5 clX11_93 pyX8_nodeAt (mX8_nodeAt l e5) (by decide) r5 rfl hP rfl (catL c1n (Nat.le_of_ble_eq_true rfl)) hl.1.1 (fun H locs hP => ?_)
  refine rv_astore_n X dX11_ticksToGo_8 rfl hl (by decide) rfl (fun ls hl => ?_)
  have hl : LV ls 4 [(1, va_rf v5), (0, va_rf l0)] := hl
  refine rw_aload_n X dX11_ticksToGo_9 rfl (hl.at 0 rfl) ?_
  refine rw_ifnonnull X (tgt := 17) dX11_ticksToGo_10 (by decide) (fun c10 => ?_) (fun c10 => ?_)
  · have hf := ifn hf c10
    refine rw_aload_n X dX11_ticksToGo_17 rfl (hl.at 1 rfl) ?_
    obtain ⟨v18, e18, hf⟩ := ob hf
    refine rw_getR X dX11_ticksToGo_18 fl11_43 e18 rfl hP ?_
    refine rw_aload_n X dX11_ticksToGo_21 rfl (hl.at 1 rfl) ?_
    obtain ⟨v22, e22, hf⟩ := ob hf
    refine rw_getR X dX11_ticksToGo_22 fl11_49 e22 rfl hP ?_
    refine rw_aload_n X dX11_ticksToGo_25 rfl (hl.at 1 rfl) ?_
    obtain ⟨v26, e26, hf⟩ := ob hf
    refine rw_getR X dX11_ticksToGo_26 fl11_30 e26 rfl hP ?_
    refine rw_aload_n X dX11_ticksToGo_29 rfl (hl.at 1 rfl) ?_
    obtain ⟨v30, e30, hf⟩ := ob hf
    refine rw_getR X dX11_ticksToGo_30 fl11_35 e30 rfl hP ?_
    obtain ⟨u33, r33, hf⟩ := ob hf
    obtain ⟨S33, e33, hf⟩ := ob hf
    refine rw_callVv (As := [va_rf v22, va_rf v26, va_rf v30]) X dX11_ticksToGo_33 clX11_106 pyX6_take (mX6_take l e33) (by decide) r33 rfl hP rfl (catL c1n (Nat.le_of_ble_eq_true rfl)) hl.1.1 (fun H locs hP => ?_)
    refine lv_iconst (v := 1) hx hb dX11_ticksToGo_36 (by decide) ?_
    refine rv_istore_n X dX11_ticksToGo_37 rfl hl (by decide) rfl (fun ls hl => ?_)
    have hl : LV ls 4 [(2, .int 1), (1, va_rf v5), (0, va_rf l0)] := hl
    refine lv_iconst (v := 0) hx hb dX11_ticksToGo_38 (by decide) ?_
    refine rv_istore_n X dX11_ticksToGo_39 rfl hl (by decide) rfl (fun ls hl => ?_)
    have hl : LV ls 4 [(3, .int 0), (2, .int 1), (1, va_rf v5), (0, va_rf l0)] := hl
    exact wX11_ticksToGo_40 X FU S33 l0 v5 1 0 hf _ _ _ hP (hl.sub [3, 2, 1, 0] rfl)
  · have hf := ifp hf c10
    refine lv_sipush (v := (-1004)) hx hb dX11_ticksToGo_13 (by decide) ?_
    cases hf
    exact rw_iret X dX11_ticksToGo_16 hP
theorem dX11_abort_0 : decode cX11_abort 0 = .ok (.aload_n 0, 1) := by decide +kernel
theorem dX11_abort_1 : decode cX11_abort 1 = .ok (.getfield 49, 3) := by decide +kernel
theorem dX11_abort_4 : decode cX11_abort 4 = .ok (.iconst 0, 1) := by decide +kernel
theorem dX11_abort_5 : decode cX11_abort 5 = .ok (.invokevirtual 93, 3) := by decide +kernel
theorem dX11_abort_8 : decode cX11_abort 8 = .ok (.astore_n 1, 1) := by decide +kernel
theorem dX11_abort_9 : decode cX11_abort 9 = .ok (.aload_n 1, 1) := by decide +kernel
theorem dX11_abort_10 : decode cX11_abort 10 = .ok (.ifnonnull 7, 3) := by decide +kernel
theorem dX11_abort_13 : decode cX11_abort 13 = .ok (.sipush (-1004), 3) := by decide +kernel
theorem dX11_abort_16 : decode cX11_abort 16 = .ok (.ireturn, 1) := by decide +kernel
theorem dX11_abort_17 : decode cX11_abort 17 = .ok (.aload_n 0, 1) := by decide +kernel
theorem dX11_abort_18 : decode cX11_abort 18 = .ok (.getfield 35, 3) := by decide +kernel
theorem dX11_abort_21 : decode cX11_abort 21 = .ok (.getfield 113, 3) := by decide +kernel
theorem dX11_abort_24 : decode cX11_abort 24 = .ok (.istore_n 2, 1) := by decide +kernel
theorem dX11_abort_25 : decode cX11_abort 25 = .ok (.aload_n 0, 1) := by decide +kernel
theorem dX11_abort_26 : decode cX11_abort 26 = .ok (.getfield 22, 3) := by decide +kernel
theorem dX11_abort_29 : decode cX11_abort 29 = .ok (.aload_n 1, 1) := by decide +kernel
theorem dX11_abort_30 : decode cX11_abort 30 = .ok (.aload_n 1, 1) := by decide +kernel
theorem dX11_abort_31 : decode cX11_abort 31 = .ok (.invokevirtual 116, 3) := by decide +kernel
theorem dX11_abort_34 : decode cX11_abort 34 = .ok (.aload_n 0, 1) := by decide +kernel
theorem dX11_abort_35 : decode cX11_abort 35 = .ok (.getfield 35, 3) := by decide +kernel
theorem dX11_abort_38 : decode cX11_abort 38 = .ok (.aconst_null, 1) := by decide +kernel
theorem dX11_abort_39 : decode cX11_abort 39 = .ok (.putfield 120, 3) := by decide +kernel
theorem dX11_abort_42 : decode cX11_abort 42 = .ok (.aload_n 0, 1) := by decide +kernel
theorem dX11_abort_43 : decode cX11_abort 43 = .ok (.getfield 35, 3) := by decide +kernel
theorem dX11_abort_46 : decode cX11_abort 46 = .ok (.getfield 113, 3) := by decide +kernel
theorem dX11_abort_49 : decode cX11_abort 49 = .ok (.iload_n 2, 1) := by decide +kernel
theorem dX11_abort_50 : decode cX11_abort 50 = .ok (.isub, 1) := by decide +kernel
theorem dX11_abort_51 : decode cX11_abort 51 = .ok (.ireturn, 1) := by decide +kernel
theorem pyX11_abort : PY yX11_abort 0 := ⟨by decide +kernel, by decide +kernel, by decide +kernel⟩
def fX11_abort (Y : LY) (S : HS) (l0 : Option Nat) : Option (HS × Int32) :=
  (gR Y 11 1107 l0 S).bind fun v1 =>
  (rcv Y 8 v1).bind fun _ =>
  (fX8_nodeAt Y S v1 0).bind fun v5 =>
  if v5 = none then
    some (S, (-1004))
  else
    (gR Y 11 1104 l0 S).bind fun v18 =>
    (gI Y 2 205 v18 S).bind fun v21 =>
    (gR Y 11 1102 l0 S).bind fun v26 =>
    (rcv Y 9 v26).bind fun _ =>
    (fX9_stopBack Y S v26 v5 v5).bind fun S31 =>
    (gR Y 11 1104 l0 S31).bind fun v35 =>
    (pR Y 2 200 v35 none S31).bind fun S39 =>
    (gR Y 11 1104 l0 S39).bind fun v43 =>
    (gI Y 2 205 v43 S39).bind fun v46 =>
    some (S39, (v46 - v21))
set_option maxRecDepth 100000 in
set_option maxHeartbeats 4000000 in
theorem mX11_abort (l : Launch) {G : GG} {Y : LY} {S : HS} {l0 : Option Nat} {res : HS × Int32} (hf : fX11_abort Y S l0 = some res) : MM l yX11_abort cX11_abort 3 (some .int) 4 98 G Y S [va_rf l0] res.1 (some (.int res.2)) := by
  refine mm_of2 (plainFor_of_name (by decide +kernel)) (Nat.le_of_ble_eq_true rfl) (c1c (cr _) c1n) ?_
  intro p e R s m args below meth c X H locs ls hP hl
  have X : Cx p R s m args meth c RX11 cX11_abort 3 4 98 (fun q => q ∈ Y.1) G (some .int) := X
  have hx := X.1.1
  have hb := X.1.2.1
  have hl : LV ls 3 [(0, va_rf l0)] := hl
  unfold fX11_abort at hf
  refine rw_aload_n X dX11_abort_0 rfl (hl.at 0 rfl) ?_
  obtain ⟨v1, e1, hf⟩ := ob hf
  refine rw_getR X dX11_abort_1 fl11_49 e1 rfl hP ?_
  refine lv_iconst (v := 0) hx hb dX11_abort_4 (by decide) ?_
  obtain ⟨u5, r5, hf⟩ := ob hf
  obtain ⟨v5, e5, hf⟩ := ob hf
  refine rw_callVr (As := [.int 0]) X dX11_abort_5 clX11_93 pyX8_nodeAt (mX8_nodeAt l e5) (by decide) r5 rfl hP rfl (catL c1n (Nat.le_of_ble_eq_true rfl)) hl.1.1 (fun H locs hP => ?_)
  refine rv_astore_n X dX11_abort_8 rfl hl (by decide) rfl (fun ls hl => ?_)
  have hl : LV ls 3 [(1, va_rf v5), (0, va_rf l0)] := hl
  refine rw_aload_n X dX11_abort_9 rfl (hl.at 0 rfl) ?_
  refine rw_ifnonnull X (tgt := 17) dX11_abort_10 (by decide) (fun c10 => ?_) (fun c10 => ?_)
  · have hf := ifn hf c10
    refine rw_aload_n X dX11_abort_17 rfl (hl.at 1 rfl) ?_
    obtain ⟨v18, e18, hf⟩ := ob hf
    refine rw_getR X dX11_abort_18 fl11_35 e18 rfl hP ?_
    obtain ⟨v21, e21, hf⟩ := ob hf
    refine rw_getI X dX11_abort_21 fl11_113 e21 rfl hP ?_
    refine rv_istore_n X dX11_abort_24 rfl hl (by decide) rfl (fun ls hl => ?_)
    have hl : LV ls 3 [(2, .int v21), (1, va_rf v5), (0, va_rf l0)] := hl
    refine rw_aload_n X dX11_abort_25 rfl (hl.at 2 rfl) ?_
    obtain ⟨v26, e26, hf⟩ := ob hf
    refine rw_getR X dX11_abort_26 fl11_22 e26 rfl hP ?_
    refine rw_aload_n X dX11_abort_29 rfl (hl.at 1 rfl) ?_
    refine rw_aload_n X dX11_abort_30 rfl (hl.at 1 rfl) ?_
    obtain ⟨u31, r31, hf⟩ := ob hf
    obtain ⟨S31, e31, hf⟩ := ob hf
    refine rw_callVv (As := [va_rf v5, va_rf v5]) X dX11_abort_31 clX11_116 pyX9_stopBack (mX9_stopBack l e31) (by decide) r31 rfl hP rfl (catL c1n (Nat.le_of_ble_eq_true rfl)) hl.1.1 (fun H locs hP => ?_)
    refine rw_aload_n X dX11_abort_34 rfl (hl.at 2 rfl) ?_
    obtain ⟨v35, e35, hf⟩ := ob hf
    refine rw_getR X dX11_abort_35 fl11_35 e35 rfl hP ?_
    refine lv_null hx hb dX11_abort_38 ?_
    refine W.eq (g2 := F0 m 39 ls (va_rf none :: (va_rf v35 :: []))) rfl ?_
    obtain ⟨S39, e39, hf⟩ := ob hf
    refine rw_putR X dX11_abort_39 fl11_120 fw2_0 e39 rfl hP (fun H locs hP => ?_)
    refine rw_aload_n X dX11_abort_42 rfl (hl.at 2 rfl) ?_
    obtain ⟨v43, e43, hf⟩ := ob hf
    refine rw_getR X dX11_abort_43 fl11_35 e43 rfl hP ?_
    obtain ⟨v46, e46, hf⟩ := ob hf
    refine rw_getI X dX11_abort_46 fl11_113 e46 rfl hP ?_
    refine lv_iload_n hx hb dX11_abort_49 rfl (hl.at 0 rfl) ?_
    refine lv_isub hx hb dX11_abort_50 ?_
    cases hf
    exact rw_iret X dX11_abort_51 hP
  · have hf := ifp hf c10
    refine lv_sipush (v := (-1004)) hx hb dX11_abort_13 (by decide) ?_
    cases hf
    exact rw_iret X dX11_abort_16 hP
theorem dX11_node_0 : decode cX11_node 0 = .ok (.aload_n 0, 1) := by decide +kernel
theorem dX11_node_1 : decode cX11_node 1 = .ok (.getfield 49, 3) := by decide +kernel
theorem dX11_node_4 : decode cX11_node 4 = .ok (.iload_n 1, 1) := by decide +kernel
theorem dX11_node_5 : decode cX11_node 5 = .ok (.invokevirtual 93, 3) := by decide +kernel
theorem dX11_node_8 : decode cX11_node 8 = .ok (.astore_n 3, 1) := by decide +kernel
theorem dX11_node_9 : decode cX11_node 9 = .ok (.aload_n 3, 1) := by decide +kernel
theorem dX11_node_10 : decode cX11_node 10 = .ok (.ifnonnull 7, 3) := by decide +kernel
theorem dX11_node_13 : decode cX11_node 13 = .ok (.sipush (-1001), 3) := by decide +kernel
theorem dX11_node_16 : decode cX11_node 16 = .ok (.ireturn, 1) := by decide +kernel
theorem dX11_node_17 : decode cX11_node 17 = .ok (.aload_n 3, 1) := by decide +kernel
theorem dX11_node_18 : decode cX11_node 18 = .ok (.getfield 124, 3) := by decide +kernel
theorem dX11_node_21 : decode cX11_node 21 = .ok (.astore 4, 2) := by decide +kernel
theorem dX11_node_23 : decode cX11_node 23 = .ok (.iload_n 2, 1) := by decide +kernel
theorem dX11_node_24 : decode cX11_node 24 = .ok (.tableswitch 153 0 11 #[64, 69, 88, 93, 107, 112, 118, 124, 130, 136, 142, 147], 64) := by decide +kernel
theorem dX11_node_88 : decode cX11_node 88 = .ok (.aload_n 3, 1) := by decide +kernel
theorem dX11_node_89 : decode cX11_node 89 = .ok (.getfield 128, 3) := by decide +kernel
theorem dX11_node_92 : decode cX11_node 92 = .ok (.ireturn, 1) := by decide +kernel
theorem dX11_node_93 : decode cX11_node 93 = .ok (.aload_n 3, 1) := by decide +kernel
theorem dX11_node_94 : decode cX11_node 94 = .ok (.getfield 131, 3) := by decide +kernel
theorem dX11_node_97 : decode cX11_node 97 = .ok (.ifnonnull 7, 3) := by decide +kernel
theorem dX11_node_100 : decode cX11_node 100 = .ok (.iconst (-1), 1) := by decide +kernel
theorem dX11_node_101 : decode cX11_node 101 = .ok (.goto 10, 3) := by decide +kernel
theorem dX11_node_104 : decode cX11_node 104 = .ok (.aload_n 3, 1) := by decide +kernel
theorem dX11_node_105 : decode cX11_node 105 = .ok (.getfield 131, 3) := by decide +kernel
theorem dX11_node_108 : decode cX11_node 108 = .ok (.getfield 134, 3) := by decide +kernel
theorem dX11_node_111 : decode cX11_node 111 = .ok (.ireturn, 1) := by decide +kernel
theorem dX11_node_112 : decode cX11_node 112 = .ok (.aload_n 3, 1) := by decide +kernel
theorem dX11_node_113 : decode cX11_node 113 = .ok (.getfield 137, 3) := by decide +kernel
theorem dX11_node_116 : decode cX11_node 116 = .ok (.ireturn, 1) := by decide +kernel
theorem dX11_node_117 : decode cX11_node 117 = .ok (.aload 4, 2) := by decide +kernel
theorem dX11_node_119 : decode cX11_node 119 = .ok (.getfield 140, 3) := by decide +kernel
theorem dX11_node_122 : decode cX11_node 122 = .ok (.ifCond .eq 7, 3) := by decide +kernel
theorem dX11_node_125 : decode cX11_node 125 = .ok (.iconst 1, 1) := by decide +kernel
theorem dX11_node_126 : decode cX11_node 126 = .ok (.goto 4, 3) := by decide +kernel
theorem dX11_node_129 : decode cX11_node 129 = .ok (.iconst 0, 1) := by decide +kernel
theorem dX11_node_130 : decode cX11_node 130 = .ok (.ireturn, 1) := by decide +kernel
theorem dX11_node_131 : decode cX11_node 131 = .ok (.aload_n 3, 1) := by decide +kernel
theorem dX11_node_132 : decode cX11_node 132 = .ok (.getfield 145, 3) := by decide +kernel
theorem dX11_node_135 : decode cX11_node 135 = .ok (.ireturn, 1) := by decide +kernel
theorem dX11_node_136 : decode cX11_node 136 = .ok (.aload 4, 2) := by decide +kernel
theorem dX11_node_138 : decode cX11_node 138 = .ok (.getfield 148, 3) := by decide +kernel
theorem dX11_node_141 : decode cX11_node 141 = .ok (.ireturn, 1) := by decide +kernel
theorem dX11_node_142 : decode cX11_node 142 = .ok (.aload 4, 2) := by decide +kernel
theorem dX11_node_144 : decode cX11_node 144 = .ok (.getfield 151, 3) := by decide +kernel
theorem dX11_node_147 : decode cX11_node 147 = .ok (.ireturn, 1) := by decide +kernel
theorem dX11_node_148 : decode cX11_node 148 = .ok (.aload 4, 2) := by decide +kernel
theorem dX11_node_150 : decode cX11_node 150 = .ok (.getfield 154, 3) := by decide +kernel
theorem dX11_node_153 : decode cX11_node 153 = .ok (.ireturn, 1) := by decide +kernel
theorem dX11_node_154 : decode cX11_node 154 = .ok (.aload 4, 2) := by decide +kernel
theorem dX11_node_156 : decode cX11_node 156 = .ok (.getfield 157, 3) := by decide +kernel
theorem dX11_node_159 : decode cX11_node 159 = .ok (.ireturn, 1) := by decide +kernel
theorem dX11_node_160 : decode cX11_node 160 = .ok (.aload 4, 2) := by decide +kernel
theorem dX11_node_162 : decode cX11_node 162 = .ok (.getfield 158, 3) := by decide +kernel
theorem dX11_node_165 : decode cX11_node 165 = .ok (.ireturn, 1) := by decide +kernel
theorem dX11_node_166 : decode cX11_node 166 = .ok (.aload_n 3, 1) := by decide +kernel
theorem dX11_node_167 : decode cX11_node 167 = .ok (.getfield 161, 3) := by decide +kernel
theorem dX11_node_170 : decode cX11_node 170 = .ok (.ireturn, 1) := by decide +kernel
theorem dX11_node_171 : decode cX11_node 171 = .ok (.aload 4, 2) := by decide +kernel
theorem dX11_node_173 : decode cX11_node 173 = .ok (.getfield 164, 3) := by decide +kernel
theorem dX11_node_176 : decode cX11_node 176 = .ok (.ireturn, 1) := by decide +kernel
theorem dX11_node_177 : decode cX11_node 177 = .ok (.sipush (-1002), 3) := by decide +kernel
theorem dX11_node_180 : decode cX11_node 180 = .ok (.ireturn, 1) := by decide +kernel
theorem pyX11_node : PY yX11_node 2 := ⟨by decide +kernel, by decide +kernel, by decide +kernel⟩
def fX11_node (Y : LY) (S : HS) (l0 : Option Nat) (l1 : Int32) (l2 : Int32) : Option (Int32) :=
  (gR Y 11 1107 l0 S).bind fun v1 =>
  (rcv Y 8 v1).bind fun _ =>
  (fX8_nodeAt Y S v1 l1).bind fun v5 =>
  if v5 = none then
    some (-1001)
  else
    (gR Y 4 403 v5 S).bind fun v18 =>
    if l2 = 0 then
      (gI Y 4 404 v5 S).bind fun v89 =>
      some v89
    else
    if l2 = 1 then
      (gR Y 4 409 v5 S).bind fun v94 =>
      if v94 = none then
        some (-1)
      else
        (gR Y 4 409 v5 S).bind fun v105 =>
        (gI Y 4 400 v105 S).bind fun v108 =>
        some v108
    else
    if l2 = 2 then
      (gI Y 4 407 v5 S).bind fun v113 =>
      some v113
    else
    if l2 = 3 then
      (gI Y 3 300 v18 S).bind fun v119 =>
      if v119 = 0 then
        some 0
      else
        some 1
    else
    if l2 = 4 then
      (gI Y 4 405 v5 S).bind fun v132 =>
      some v132
    else
    if l2 = 5 then
      (gI Y 3 305 v18 S).bind fun v138 =>
      some v138
    else
    if l2 = 6 then
      (gI Y 3 306 v18 S).bind fun v144 =>
      some v144
    else
    if l2 = 7 then
      (gI Y 3 307 v18 S).bind fun v150 =>
      some v150
    else
    if l2 = 8 then
      (gI Y 3 308 v18 S).bind fun v156 =>
      some v156
    else
    if l2 = 9 then
      (gI Y 3 309 v18 S).bind fun v162 =>
      some v162
    else
    if l2 = 10 then
      (gI Y 4 406 v5 S).bind fun v167 =>
      some v167
    else
    if l2 = 11 then
      (gI Y 3 304 v18 S).bind fun v173 =>
      some v173
    else
    some (-1002)
set_option maxRecDepth 100000 in
set_option maxHeartbeats 4000000 in
theorem mX11_node (l : Launch) {G : GG} {Y : LY} {S : HS} {l0 : Option Nat} {l1 : Int32} {l2 : Int32} {res : Int32} (hf : fX11_node Y S l0 l1 l2 = some res) : MM l yX11_node cX11_node 5 (some .int) 1 21 G Y S [va_rf l0, .int l1, .int l2] S (some (.int res)) := by
  refine mm_of2 (plainFor_of_name (by decide +kernel)) (Nat.le_of_ble_eq_true rfl) (c1c (cr _) (c1c (ci _) (c1c (ci _) c1n))) ?_
  intro p e R s m args below meth c X H locs ls hP hl
  have X : Cx p R s m args meth c RX11 cX11_node 5 1 21 (fun q => q ∈ Y.1) G (some .int) := X
  have hx := X.1.1
  have hb := X.1.2.1
  have hl : LV ls 5 [(0, va_rf l0), (1, .int l1), (2, .int l2)] := hl
  unfold fX11_node at hf
  refine rw_aload_n X dX11_node_0 rfl (hl.at 0 rfl) ?_
  obtain ⟨v1, e1, hf⟩ := ob hf
  refine rw_getR X dX11_node_1 fl11_49 e1 rfl hP ?_
  refine lv_iload_n hx hb dX11_node_4 rfl (hl.at 1 rfl) ?_
  obtain ⟨u5, r5, hf⟩ := ob hf
  obtain ⟨v5, e5, hf⟩ := ob hf
  refine rw_callVr (As := [.int l1]) X dX11_node_5 clX11_93 pyX8_nodeAt (mX8_nodeAt l e5) (by decide) r5 rfl hP rfl (catL c1n (Nat.le_of_ble_eq_true rfl)) hl.1.1 (fun H locs hP => ?_)
  refine rv_astore_n X dX11_node_8 rfl hl (by decide) rfl (fun ls hl => ?_)
  have hl : LV ls 5 [(3, va_rf v5), (0, va_rf l0), (1, .int l1), (2, .int l2)] := hl
  refine rw_aload_n X dX11_node_9 rfl (hl.at 0 rfl) ?_
  refine rw_ifnonnull X (tgt := 17) dX11_node_10 (by decide) (fun c10 => ?_) (fun c10 => ?_)
  · have hf := ifn hf c10
    refine rw_aload_n X dX11_node_17 rfl (hl.at 0 rfl) ?_
    obtain ⟨v18, e18, hf⟩ := ob hf
    refine rw_getR X dX11_node_18 fl11_124 e18 rfl hP ?_
    refine rv_astore X dX11_node_21 hl (by decide) rfl (fun ls hl => ?_)
    have hl : LV ls 5 [(4, va_rf v18), (3, va_rf v5), (0, va_rf l0), (1, .int l1), (2, .int l2)] := hl
    refine lv_iload_n hx hb dX11_node_23 rfl (hl.at 4 rfl) ?_
    by_cases c24_0 : l2 = 0
    · have hf := ifp hf c24_0
      refine lv_tableIn (tgt := 88) hx hb dX11_node_24 (by rw [c24_0]; decide) (by rw [c24_0]; decide) (by rw [c24_0]; rfl) (by decide) ?_
      refine rw_aload_n X dX11_node_88 rfl (hl.at 1 rfl) ?_
      obtain ⟨v89, e89, hf⟩ := ob hf
      refine rw_getI X dX11_node_89 fl11_128 e89 rfl hP ?_
      cases hf
      exact rw_iret X dX11_node_92 hP
    have hf := ifn hf c24_0
    by_cases c24_1 : l2 = 1
    · have hf := ifp hf c24_1
      refine lv_tableIn (tgt := 93) hx hb dX11_node_24 (by rw [c24_1]; decide) (by rw [c24_1]; decide) (by rw [c24_1]; rfl) (by decide) ?_
      refine rw_aload_n X dX11_node_93 rfl (hl.at 1 rfl) ?_
      obtain ⟨v94, e94, hf⟩ := ob hf
      refine rw_getR X dX11_node_94 fl11_131 e94 rfl hP ?_
      refine rw_ifnonnull X (tgt := 104) dX11_node_97 (by decide) (fun c97 => ?_) (fun c97 => ?_)
      · have hf := ifn hf c97
        refine rw_aload_n X dX11_node_104 rfl (hl.at 1 rfl) ?_
        obtain ⟨v105, e105, hf⟩ := ob hf
        refine rw_getR X dX11_node_105 fl11_131 e105 rfl hP ?_
        obtain ⟨v108, e108, hf⟩ := ob hf
        refine rw_getI X dX11_node_108 fl11_134 e108 rfl hP ?_
        cases hf
        exact rw_iret X dX11_node_111 hP
      · have hf := ifp hf c97
        refine lv_iconst (v := (-1)) hx hb dX11_node_100 (by decide) ?_
        refine lv_goto (tgt := 111) hx hb dX11_node_101 (by decide) ?_
        cases hf
        exact rw_iret X dX11_node_111 hP
    have hf := ifn hf c24_1
    by_cases c24_2 : l2 = 2
    · have hf := ifp hf c24_2
      refine lv_tableIn (tgt := 112) hx hb dX11_node_24 (by rw [c24_2]; decide) (by rw [c24_2]; decide) (by rw [c24_2]; rfl) (by decide) ?_
      refine rw_aload_n X dX11_node_112 rfl (hl.at 1 rfl) ?_
      obtain ⟨v113, e113, hf⟩ := ob hf
      refine rw_getI X dX11_node_113 fl11_137 e113 rfl hP ?_
      cases hf
      exact rw_iret X dX11_node_116 hP
    have hf := ifn hf c24_2
    by_cases c24_3 : l2 = 3
    · have hf := ifp hf c24_3
      refine lv_tableIn (tgt := 117) hx hb dX11_node_24 (by rw [c24_3]; decide) (by rw [c24_3]; decide) (by rw [c24_3]; rfl) (by decide) ?_
      refine rw_aload X dX11_node_117 (hl.at 0 rfl) ?_
      obtain ⟨v119, e119, hf⟩ := ob hf
      refine rw_getI X dX11_node_119 fl11_140 e119 rfl hP ?_
      refine lv_if_eq hx hb (tgt := 129) dX11_node_122 (by decide) (fun c122 => ?_) (fun c122 => ?_)
      · have hf := ifp hf c122
        refine lv_iconst (v := 0) hx hb dX11_node_129 (by decide) ?_
        cases hf
        exact rw_iret X dX11_node_130 hP
      · have hf := ifn hf c122
        refine lv_iconst (v := 1) hx hb dX11_node_125 (by decide) ?_
        refine lv_goto (tgt := 130) hx hb dX11_node_126 (by decide) ?_
        cases hf
        exact rw_iret X dX11_node_130 hP
    have hf := ifn hf c24_3
    by_cases c24_4 : l2 = 4
    · have hf := ifp hf c24_4
      refine lv_tableIn (tgt := 131) hx hb dX11_node_24 (by rw [c24_4]; decide) (by rw [c24_4]; decide) (by rw [c24_4]; rfl) (by decide) ?_
      refine rw_aload_n X dX11_node_131 rfl (hl.at 1 rfl) ?_
      obtain ⟨v132, e132, hf⟩ := ob hf
      refine rw_getI X dX11_node_132 fl11_145 e132 rfl hP ?_
      cases hf
      exact rw_iret X dX11_node_135 hP
    have hf := ifn hf c24_4
    by_cases c24_5 : l2 = 5
    · have hf := ifp hf c24_5
      refine lv_tableIn (tgt := 136) hx hb dX11_node_24 (by rw [c24_5]; decide) (by rw [c24_5]; decide) (by rw [c24_5]; rfl) (by decide) ?_
      refine rw_aload X dX11_node_136 (hl.at 0 rfl) ?_
      obtain ⟨v138, e138, hf⟩ := ob hf
      refine rw_getI X dX11_node_138 fl11_148 e138 rfl hP ?_
      cases hf
      exact rw_iret X dX11_node_141 hP
    have hf := ifn hf c24_5
    by_cases c24_6 : l2 = 6
    · have hf := ifp hf c24_6
      refine lv_tableIn (tgt := 142) hx hb dX11_node_24 (by rw [c24_6]; decide) (by rw [c24_6]; decide) (by rw [c24_6]; rfl) (by decide) ?_
      refine rw_aload X dX11_node_142 (hl.at 0 rfl) ?_
      obtain ⟨v144, e144, hf⟩ := ob hf
      refine rw_getI X dX11_node_144 fl11_151 e144 rfl hP ?_
      cases hf
      exact rw_iret X dX11_node_147 hP
    have hf := ifn hf c24_6
    by_cases c24_7 : l2 = 7
    · have hf := ifp hf c24_7
      refine lv_tableIn (tgt := 148) hx hb dX11_node_24 (by rw [c24_7]; decide) (by rw [c24_7]; decide) (by rw [c24_7]; rfl) (by decide) ?_
      refine rw_aload X dX11_node_148 (hl.at 0 rfl) ?_
      obtain ⟨v150, e150, hf⟩ := ob hf
      refine rw_getI X dX11_node_150 fl11_154 e150 rfl hP ?_
      cases hf
      exact rw_iret X dX11_node_153 hP
    have hf := ifn hf c24_7
    by_cases c24_8 : l2 = 8
    · have hf := ifp hf c24_8
      refine lv_tableIn (tgt := 154) hx hb dX11_node_24 (by rw [c24_8]; decide) (by rw [c24_8]; decide) (by rw [c24_8]; rfl) (by decide) ?_
      refine rw_aload X dX11_node_154 (hl.at 0 rfl) ?_
      obtain ⟨v156, e156, hf⟩ := ob hf
      refine rw_getI X dX11_node_156 fl11_157 e156 rfl hP ?_
      cases hf
      exact rw_iret X dX11_node_159 hP
    have hf := ifn hf c24_8
    by_cases c24_9 : l2 = 9
    · have hf := ifp hf c24_9
      refine lv_tableIn (tgt := 160) hx hb dX11_node_24 (by rw [c24_9]; decide) (by rw [c24_9]; decide) (by rw [c24_9]; rfl) (by decide) ?_
      refine rw_aload X dX11_node_160 (hl.at 0 rfl) ?_
      obtain ⟨v162, e162, hf⟩ := ob hf
      refine rw_getI X dX11_node_162 fl11_158 e162 rfl hP ?_
      cases hf
      exact rw_iret X dX11_node_165 hP
    have hf := ifn hf c24_9
    by_cases c24_10 : l2 = 10
    · have hf := ifp hf c24_10
      refine lv_tableIn (tgt := 166) hx hb dX11_node_24 (by rw [c24_10]; decide) (by rw [c24_10]; decide) (by rw [c24_10]; rfl) (by decide) ?_
      refine rw_aload_n X dX11_node_166 rfl (hl.at 1 rfl) ?_
      obtain ⟨v167, e167, hf⟩ := ob hf
      refine rw_getI X dX11_node_167 fl11_161 e167 rfl hP ?_
      cases hf
      exact rw_iret X dX11_node_170 hP
    have hf := ifn hf c24_10
    by_cases c24_11 : l2 = 11
    · have hf := ifp hf c24_11
      refine lv_tableIn (tgt := 171) hx hb dX11_node_24 (by rw [c24_11]; decide) (by rw [c24_11]; decide) (by rw [c24_11]; rfl) (by decide) ?_
      refine rw_aload X dX11_node_171 (hl.at 0 rfl) ?_
      obtain ⟨v173, e173, hf⟩ := ob hf
      refine rw_getI X dX11_node_173 fl11_164 e173 rfl hP ?_
      cases hf
      exact rw_iret X dX11_node_176 hP
    have hf := ifn hf c24_11
    have t24_0 := tsw (k := 0) (v := 0) (by decide) c24_0
    have t24_1 := tsw (k := 1) (v := 1) (by decide) c24_1
    have t24_2 := tsw (k := 2) (v := 2) (by decide) c24_2
    have t24_3 := tsw (k := 3) (v := 3) (by decide) c24_3
    have t24_4 := tsw (k := 4) (v := 4) (by decide) c24_4
    have t24_5 := tsw (k := 5) (v := 5) (by decide) c24_5
    have t24_6 := tsw (k := 6) (v := 6) (by decide) c24_6
    have t24_7 := tsw (k := 7) (v := 7) (by decide) c24_7
    have t24_8 := tsw (k := 8) (v := 8) (by decide) c24_8
    have t24_9 := tsw (k := 9) (v := 9) (by decide) c24_9
    have t24_10 := tsw (k := 10) (v := 10) (by decide) c24_10
    have t24_11 := tsw (k := 11) (v := 11) (by decide) c24_11
    refine lv_tableOut (tgt := 177) hx hb dX11_node_24 (by omega) (by decide) ?_
    refine lv_sipush (v := (-1002)) hx hb dX11_node_177 (by decide) ?_
    cases hf
    exact rw_iret X dX11_node_180 hP
  · have hf := ifp hf c10
    refine lv_sipush (v := (-1001)) hx hb dX11_node_13 (by decide) ?_
    cases hf
    exact rw_iret X dX11_node_16 hP
theorem dX11_child_0 : decode cX11_child 0 = .ok (.aload_n 0, 1) := by decide +kernel
theorem dX11_child_1 : decode cX11_child 1 = .ok (.getfield 49, 3) := by decide +kernel
theorem dX11_child_4 : decode cX11_child 4 = .ok (.iload_n 1, 1) := by decide +kernel
theorem dX11_child_5 : decode cX11_child 5 = .ok (.invokevirtual 93, 3) := by decide +kernel
theorem dX11_child_8 : decode cX11_child 8 = .ok (.astore_n 3, 1) := by decide +kernel
theorem dX11_child_9 : decode cX11_child 9 = .ok (.aload_n 3, 1) := by decide +kernel
theorem dX11_child_10 : decode cX11_child 10 = .ok (.ifnull 15, 3) := by decide +kernel
theorem dX11_child_13 : decode cX11_child 13 = .ok (.iload_n 2, 1) := by decide +kernel
theorem dX11_child_14 : decode cX11_child 14 = .ok (.ifCond .lt 11, 3) := by decide +kernel
theorem dX11_child_17 : decode cX11_child 17 = .ok (.iload_n 2, 1) := by decide +kernel
theorem dX11_child_18 : decode cX11_child 18 = .ok (.aload_n 3, 1) := by decide +kernel
theorem dX11_child_19 : decode cX11_child 19 = .ok (.getfield 137, 3) := by decide +kernel
theorem dX11_child_22 : decode cX11_child 22 = .ok (.if_icmp .lt 7, 3) := by decide +kernel
theorem dX11_child_25 : decode cX11_child 25 = .ok (.sipush (-1001), 3) := by decide +kernel
theorem dX11_child_28 : decode cX11_child 28 = .ok (.ireturn, 1) := by decide +kernel
theorem dX11_child_29 : decode cX11_child 29 = .ok (.aload_n 3, 1) := by decide +kernel
theorem dX11_child_30 : decode cX11_child 30 = .ok (.getfield 167, 3) := by decide +kernel
theorem dX11_child_33 : decode cX11_child 33 = .ok (.astore 4, 2) := by decide +kernel
theorem dX11_child_35 : decode cX11_child 35 = .ok (.iconst 0, 1) := by decide +kernel
theorem dX11_child_36 : decode cX11_child 36 = .ok (.istore 5, 2) := by decide +kernel
theorem dX11_child_38 : decode cX11_child 38 = .ok (.iload 5, 2) := by decide +kernel
theorem dX11_child_40 : decode cX11_child 40 = .ok (.iload_n 2, 1) := by decide +kernel
theorem dX11_child_41 : decode cX11_child 41 = .ok (.if_icmp .ge 21, 3) := by decide +kernel
theorem dX11_child_44 : decode cX11_child 44 = .ok (.aload 4, 2) := by decide +kernel
theorem dX11_child_46 : decode cX11_child 46 = .ok (.ifnull 16, 3) := by decide +kernel
theorem dX11_child_49 : decode cX11_child 49 = .ok (.aload 4, 2) := by decide +kernel
theorem dX11_child_51 : decode cX11_child 51 = .ok (.getfield 170, 3) := by decide +kernel
theorem dX11_child_54 : decode cX11_child 54 = .ok (.astore 4, 2) := by decide +kernel
theorem dX11_child_56 : decode cX11_child 56 = .ok (.iinc 5 1, 3) := by decide +kernel
theorem dX11_child_59 : decode cX11_child 59 = .ok (.goto (-21), 3) := by decide +kernel
theorem dX11_child_62 : decode cX11_child 62 = .ok (.aload 4, 2) := by decide +kernel
theorem dX11_child_64 : decode cX11_child 64 = .ok (.ifnonnull 9, 3) := by decide +kernel
theorem dX11_child_67 : decode cX11_child 67 = .ok (.sipush (-1001), 3) := by decide +kernel
theorem dX11_child_70 : decode cX11_child 70 = .ok (.goto 8, 3) := by decide +kernel
theorem dX11_child_73 : decode cX11_child 73 = .ok (.aload 4, 2) := by decide +kernel
theorem dX11_child_75 : decode cX11_child 75 = .ok (.getfield 134, 3) := by decide +kernel
theorem dX11_child_78 : decode cX11_child 78 = .ok (.ireturn, 1) := by decide +kernel
theorem pyX11_child : PY yX11_child 2 := ⟨by decide +kernel, by decide +kernel, by decide +kernel⟩
def fX11_child_38 (Y : LY) (S : HS) : Nat → Int32 → Option Nat → Int32 → Option (Int32)
  | 0, _, _, _ => none
  | n + 1, l2, l4, l5 =>
    if l2 ≤ l5 then
      if l4 = none then
        some (-1001)
      else
        (gI Y 4 400 l4 S).bind fun v75 =>
        some v75
    else
      if l4 = none then
        if l4 = none then
          some (-1001)
        else
          (gI Y 4 400 l4 S).bind fun v75 =>
          some v75
      else
        (gR Y 4 412 l4 S).bind fun v51 =>
        fX11_child_38 Y S n l2 v51 (l5 + 1)
set_option maxRecDepth 100000 in
set_option maxHeartbeats 4000000 in
theorem wX11_child_38 {p : Program} {l : Launch} {e : Env} {R : Room} {s : State} {m : MethodId} {args : Array Value} {below : List Frame} {meth : Method} {c : Code} {G : GG} {Y : LY} {S : HS} {res : Int32} (X : Cx p R s m args meth c RX11 cX11_child 6 1 21 (fun q => q ∈ Y.1) G (some .int)) : ∀ (n : Nat) (l2 : Int32) (l4 : Option Nat) (l5 : Int32), fX11_child_38 Y S n l2 l4 l5 = some res → ∀ (H : Heap) (locs : List Loc) (ls : Array Slot), HP (fun q => q ∈ Y.1) G Y s S H locs → LV ls 6 [(2, .int l2), (4, va_rf l4), (5, .int l5)] → W p l e R s m args below meth c H locs 0 0 (MQ below (QI G Y S (some (.int res))) args s 0 0 (fun q => q ∈ Y.1)) (F0 m 38 ls []) := by
  have hx := X.1.1
  have hb := X.1.2.1
  intro n
  induction n with
  | zero =>
    intro l2 l4 l5 hf
    cases hf
  | succ n ih =>
    intro l2 l4 l5 hf H locs ls hP hl
    rw [fX11_child_38] at hf
    refine lv_iload hx hb dX11_child_38 (hl.at 2 rfl) ?_
    refine lv_iload_n hx hb dX11_child_40 rfl (hl.at 0 rfl) ?_
    refine lv_icmp_ge hx hb (tgt := 62) dX11_child_41 (by decide) (fun c41 => ?_) (fun c41 => ?_)
    · have hf := ifp hf c41
      refine rw_aload X dX11_child_62 (hl.at 1 rfl) ?_
      refine rw_ifnonnull X (tgt := 73) dX11_child_64 (by decide) (fun c64 => ?_) (fun c64 => ?_)
      · have hf := ifn hf c64
        refine rw_aload X dX11_child_73 (hl.at 1 rfl) ?_
        obtain ⟨v75, e75, hf⟩ := ob hf
        refine rw_getI X dX11_child_75 fl11_134 e75 rfl hP ?_
        cases hf
        exact rw_iret X dX11_child_78 hP
      · have hf := ifp hf c64
        refine lv_sipush (v := (-1001)) hx hb dX11_child_67 (by decide) ?_
        refine lv_goto (tgt := 78) hx hb dX11_child_70 (by decide) ?_
        cases hf
        exact rw_iret X dX11_child_78 hP
    · have hf := ifn hf c41
      refine rw_aload X dX11_child_44 (hl.at 1 rfl) ?_
      refine rw_ifnull X (tgt := 62) dX11_child_46 (by decide) (fun c46 => ?_) (fun c46 => ?_)
      · have hf := ifp hf c46
        refine rw_aload X dX11_child_62 (hl.at 1 rfl) ?_
        refine rw_ifnonnull X (tgt := 73) dX11_child_64 (by decide) (fun c64 => ?_) (fun c64 => ?_)
        · have hf := ifn hf c64
          refine rw_aload X dX11_child_73 (hl.at 1 rfl) ?_
          obtain ⟨v75, e75, hf⟩ := ob hf
          refine rw_getI X dX11_child_75 fl11_134 e75 rfl hP ?_
          cases hf
          exact rw_iret X dX11_child_78 hP
        · have hf := ifp hf c64
          refine lv_sipush (v := (-1001)) hx hb dX11_child_67 (by decide) ?_
          refine lv_goto (tgt := 78) hx hb dX11_child_70 (by decide) ?_
          cases hf
          exact rw_iret X dX11_child_78 hP
      · have hf := ifn hf c46
        refine rw_aload X dX11_child_49 (hl.at 1 rfl) ?_
        obtain ⟨v51, e51, hf⟩ := ob hf
        refine rw_getR X dX11_child_51 fl11_170 e51 rfl hP ?_
        refine rv_astore X dX11_child_54 hl (by decide) rfl (fun ls hl => ?_)
        have hl : LV ls 6 [(4, va_rf v51), (2, .int l2), (5, .int l5)] := hl
        refine rv_iinc (k := 2) (d := 1) X dX11_child_56 hl rfl (by decide) (by decide) rfl (fun ls hl => ?_)
        have hl : LV ls 6 [(5, .int (l5 + 1)), (4, va_rf v51), (2, .int l2)] := hl
        refine lv_goto (tgt := 38) hx hb dX11_child_59 (by decide) ?_
        exact ih l2 v51 (l5 + 1) hf _ _ _ hP (hl.sub [2, 1, 0] rfl)
def fX11_child (Y : LY) (S : HS) (l0 : Option Nat) (l1 : Int32) (l2 : Int32) : Option (Int32) :=
  (gR Y 11 1107 l0 S).bind fun v1 =>
  (rcv Y 8 v1).bind fun _ =>
  (fX8_nodeAt Y S v1 l1).bind fun v5 =>
  if v5 = none then
    some (-1001)
  else
    if l2 < 0 then
      some (-1001)
    else
      (gI Y 4 407 v5 S).bind fun v19 =>
      if l2 < v19 then
        (gR Y 4 410 v5 S).bind fun v30 =>
        fX11_child_38 Y S FU l2 v30 0
      else
        some (-1001)
set_option maxRecDepth 100000 in
set_option maxHeartbeats 4000000 in
theorem mX11_child (l : Launch) {G : GG} {Y : LY} {S : HS} {l0 : Option Nat} {l1 : Int32} {l2 : Int32} {res : Int32} (hf : fX11_child Y S l0 l1 l2 = some res) : MM l yX11_child cX11_child 6 (some .int) 1 21 G Y S [va_rf l0, .int l1, .int l2] S (some (.int res)) := by
  refine mm_of2 (plainFor_of_name (by decide +kernel)) (Nat.le_of_ble_eq_true rfl) (c1c (cr _) (c1c (ci _) (c1c (ci _) c1n))) ?_
  intro p e R s m args below meth c X H locs ls hP hl
  have X : Cx p R s m args meth c RX11 cX11_child 6 1 21 (fun q => q ∈ Y.1) G (some .int) := X
  have hx := X.1.1
  have hb := X.1.2.1
  have hl : LV ls 6 [(0, va_rf l0), (1, .int l1), (2, .int l2)] := hl
  unfold fX11_child at hf
  refine rw_aload_n X dX11_child_0 rfl (hl.at 0 rfl) ?_
  obtain ⟨v1, e1, hf⟩ := ob hf
  refine rw_getR X dX11_child_1 fl11_49 e1 rfl hP ?_
  refine lv_iload_n hx hb dX11_child_4 rfl (hl.at 1 rfl) ?_
  obtain ⟨u5, r5, hf⟩ := ob hf
  obtain ⟨v5, e5, hf⟩ := ob hf
  refine rw_callVr (As := [.int l1]) X dX11_child_5 clX11_93 pyX8_nodeAt (mX8_nodeAt l e5) (by decide) r5 rfl hP rfl (catL c1n (Nat.le_of_ble_eq_true rfl)) hl.1.1 (fun H locs hP => ?_)
  refine rv_astore_n X dX11_child_8 rfl hl (by decide) rfl (fun ls hl => ?_)
  have hl : LV ls 6 [(3, va_rf v5), (0, va_rf l0), (1, .int l1), (2, .int l2)] := hl
  refine rw_aload_n X dX11_child_9 rfl (hl.at 0 rfl) ?_
  refine rw_ifnull X (tgt := 25) dX11_child_10 (by decide) (fun c10 => ?_) (fun c10 => ?_)
  · have hf := ifp hf c10
    refine lv_sipush (v := (-1001)) hx hb dX11_child_25 (by decide) ?_
    cases hf
    exact rw_iret X dX11_child_28 hP
  · have hf := ifn hf c10
    refine lv_iload_n hx hb dX11_child_13 rfl (hl.at 3 rfl) ?_
    refine lv_if_lt hx hb (tgt := 25) dX11_child_14 (by decide) (fun c14 => ?_) (fun c14 => ?_)
    · have hf := ifp hf c14
      refine lv_sipush (v := (-1001)) hx hb dX11_child_25 (by decide) ?_
      cases hf
      exact rw_iret X dX11_child_28 hP
    · have hf := ifn hf c14
      refine lv_iload_n hx hb dX11_child_17 rfl (hl.at 3 rfl) ?_
      refine rw_aload_n X dX11_child_18 rfl (hl.at 0 rfl) ?_
      obtain ⟨v19, e19, hf⟩ := ob hf
      refine rw_getI X dX11_child_19 fl11_137 e19 rfl hP ?_
      refine lv_icmp_lt hx hb (tgt := 29) dX11_child_22 (by decide) (fun c22 => ?_) (fun c22 => ?_)
      · have hf := ifp hf c22
        refine rw_aload_n X dX11_child_29 rfl (hl.at 0 rfl) ?_
        obtain ⟨v30, e30, hf⟩ := ob hf
        refine rw_getR X dX11_child_30 fl11_167 e30 rfl hP ?_
        refine rv_astore X dX11_child_33 hl (by decide) rfl (fun ls hl => ?_)
        have hl : LV ls 6 [(4, va_rf v30), (3, va_rf v5), (0, va_rf l0), (1, .int l1), (2, .int l2)] := hl
        refine lv_iconst (v := 0) hx hb dX11_child_35 (by decide) ?_
        refine rv_istore X dX11_child_36 hl (by decide) rfl (fun ls hl => ?_)
        have hl : LV ls 6 [(5, .int 0), (4, va_rf v30), (3, va_rf v5), (0, va_rf l0), (1, .int l1), (2, .int l2)] := hl
        exact wX11_child_38 X FU l2 v30 0 hf _ _ _ hP (hl.sub [5, 1, 0] rfl)
      · have hf := ifn hf c22
        refine lv_sipush (v := (-1001)) hx hb dX11_child_25 (by decide) ?_
        cases hf
        exact rw_iret X dX11_child_28 hP
theorem dX11_underWay_0 : decode cX11_underWay 0 = .ok (.aload_n 0, 1) := by decide +kernel
theorem dX11_underWay_1 : decode cX11_underWay 1 = .ok (.getfield 35, 3) := by decide +kernel
theorem dX11_underWay_4 : decode cX11_underWay 4 = .ok (.getfield 120, 3) := by decide +kernel
theorem dX11_underWay_7 : decode cX11_underWay 7 = .ok (.ifnull 7, 3) := by decide +kernel
theorem dX11_underWay_10 : decode cX11_underWay 10 = .ok (.iload_n 1, 1) := by decide +kernel
theorem dX11_underWay_11 : decode cX11_underWay 11 = .ok (.ifCond .ge 7, 3) := by decide +kernel
theorem dX11_underWay_14 : decode cX11_underWay 14 = .ok (.sipush (-1001), 3) := by decide +kernel
theorem dX11_underWay_17 : decode cX11_underWay 17 = .ok (.ireturn, 1) := by decide +kernel
theorem dX11_underWay_18 : decode cX11_underWay 18 = .ok (.aload_n 0, 1) := by decide +kernel
theorem dX11_underWay_19 : decode cX11_underWay 19 = .ok (.getfield 35, 3) := by decide +kernel
theorem dX11_underWay_22 : decode cX11_underWay 22 = .ok (.getfield 120, 3) := by decide +kernel
theorem dX11_underWay_25 : decode cX11_underWay 25 = .ok (.getfield 131, 3) := by decide +kernel
theorem dX11_underWay_28 : decode cX11_underWay 28 = .ok (.astore_n 2, 1) := by decide +kernel
theorem dX11_underWay_29 : decode cX11_underWay 29 = .ok (.aload_n 2, 1) := by decide +kernel
theorem dX11_underWay_30 : decode cX11_underWay 30 = .ok (.ifnull 26, 3) := by decide +kernel
theorem dX11_underWay_33 : decode cX11_underWay 33 = .ok (.aload_n 2, 1) := by decide +kernel
theorem dX11_underWay_34 : decode cX11_underWay 34 = .ok (.getfield 161, 3) := by decide +kernel
theorem dX11_underWay_37 : decode cX11_underWay 37 = .ok (.iconst 1, 1) := by decide +kernel
theorem dX11_underWay_38 : decode cX11_underWay 38 = .ok (.isub, 1) := by decide +kernel
theorem dX11_underWay_39 : decode cX11_underWay 39 = .ok (.iload_n 1, 1) := by decide +kernel
theorem dX11_underWay_40 : decode cX11_underWay 40 = .ok (.if_icmp .ne 8, 3) := by decide +kernel
theorem dX11_underWay_43 : decode cX11_underWay 43 = .ok (.aload_n 2, 1) := by decide +kernel
theorem dX11_underWay_44 : decode cX11_underWay 44 = .ok (.getfield 134, 3) := by decide +kernel
theorem dX11_underWay_47 : decode cX11_underWay 47 = .ok (.ireturn, 1) := by decide +kernel
theorem dX11_underWay_48 : decode cX11_underWay 48 = .ok (.aload_n 2, 1) := by decide +kernel
theorem dX11_underWay_49 : decode cX11_underWay 49 = .ok (.getfield 131, 3) := by decide +kernel
theorem dX11_underWay_52 : decode cX11_underWay 52 = .ok (.astore_n 2, 1) := by decide +kernel
theorem dX11_underWay_53 : decode cX11_underWay 53 = .ok (.goto (-24), 3) := by decide +kernel
theorem dX11_underWay_56 : decode cX11_underWay 56 = .ok (.sipush (-1001), 3) := by decide +kernel
theorem dX11_underWay_59 : decode cX11_underWay 59 = .ok (.ireturn, 1) := by decide +kernel
theorem pyX11_underWay : PY yX11_underWay 1 := ⟨by decide +kernel, by decide +kernel, by decide +kernel⟩
def fX11_underWay_29 (Y : LY) (S : HS) : Nat → Int32 → Option Nat → Option (Int32)
  | 0, _, _ => none
  | n + 1, l1, l2 =>
    if l2 = none then
      some (-1001)
    else
      (gI Y 4 406 l2 S).bind fun v34 =>
      if (v34 - 1) = l1 then
        (gI Y 4 400 l2 S).bind fun v44 =>
        some v44
      else
        (gR Y 4 409 l2 S).bind fun v49 =>
        fX11_underWay_29 Y S n l1 v49
set_option maxRecDepth 100000 in
set_option maxHeartbeats 4000000 in
theorem wX11_underWay_29 {p : Program} {l : Launch} {e : Env} {R : Room} {s : State} {m : MethodId} {args : Array Value} {below : List Frame} {meth : Method} {c : Code} {G : GG} {Y : LY} {S : HS} {res : Int32} (X : Cx p R s m args meth c RX11 cX11_underWay 3 0 0 (fun q => q ∈ Y.1) G (some .int)) : ∀ (n : Nat) (l1 : Int32) (l2 : Option Nat), fX11_underWay_29 Y S n l1 l2 = some res → ∀ (H : Heap) (locs : List Loc) (ls : Array Slot), HP (fun q => q ∈ Y.1) G Y s S H locs → LV ls 3 [(1, .int l1), (2, va_rf l2)] → W p l e R s m args below meth c H locs 0 0 (MQ below (QI G Y S (some (.int res))) args s 0 0 (fun q => q ∈ Y.1)) (F0 m 29 ls []) := by
  have hx := X.1.1
  have hb := X.1.2.1
  intro n
  induction n with
  | zero =>
    intro l1 l2 hf
    cases hf
  | succ n ih =>
    intro l1 l2 hf H locs ls hP hl
    rw [fX11_underWay_29] at hf
    refine rw_aload_n X dX11_underWay_29 rfl (hl.at 1 rfl) ?_
    refine rw_ifnull X (tgt := 56) dX11_underWay_30 (by decide) (fun c30 => ?_) (fun c30 => ?_)
    · have hf := ifp hf c30
      refine lv_sipush (v := (-1001)) hx hb dX11_underWay_56 (by decide) ?_
      cases hf
      exact rw_iret X dX11_underWay_59 hP
    · have hf := ifn hf c30
      refine rw_aload_n X dX11_underWay_33 rfl (hl.at 1 rfl) ?_
      obtain ⟨v34, e34, hf⟩ := ob hf
      refine rw_getI X dX11_underWay_34 fl11_161 e34 rfl hP ?_
      refine lv_iconst (v := 1) hx hb dX11_underWay_37 (by decide) ?_
      refine lv_isub hx hb dX11_underWay_38 ?_
      refine lv_iload_n hx hb dX11_underWay_39 rfl (hl.at 0 rfl) ?_
      refine lv_icmp_ne hx hb (tgt := 48) dX11_underWay_40 (by decide) (fun c40 => ?_) (fun c40 => ?_)
      · have hf := ifn hf c40
        refine rw_aload_n X dX11_underWay_48 rfl (hl.at 1 rfl) ?_
        obtain ⟨v49, e49, hf⟩ := ob hf
        refine rw_getR X dX11_underWay_49 fl11_131 e49 rfl hP ?_
        refine rv_astore_n X dX11_underWay_52 rfl hl (by decide) rfl (fun ls hl => ?_)
        have hl : LV ls 3 [(2, va_rf v49), (1, .int l1)] := hl
        refine lv_goto (tgt := 29) hx hb dX11_underWay_53 (by decide) ?_
        exact ih l1 v49 hf _ _ _ hP (hl.sub [1, 0] rfl)
      · have hf := ifp hf c40
        refine rw_aload_n X dX11_underWay_43 rfl (hl.at 1 rfl) ?_
        obtain ⟨v44, e44, hf⟩ := ob hf
        refine rw_getI X dX11_underWay_44 fl11_134 e44 rfl hP ?_
        cases hf
        exact rw_iret X dX11_underWay_47 hP
def fX11_underWay (Y : LY) (S : HS) (l0 : Option Nat) (l1 : Int32) : Option (Int32) :=
  (gR Y 11 1104 l0 S).bind fun v1 =>
  (gR Y 2 200 v1 S).bind fun v4 =>
  if v4 = none then
    some (-1001)
  else
    if 0 ≤ l1 then
      (gR Y 11 1104 l0 S).bind fun v19 =>
      (gR Y 2 200 v19 S).bind fun v22 =>
      (gR Y 4 409 v22 S).bind fun v25 =>
      fX11_underWay_29 Y S FU l1 v25
    else
      some (-1001)
set_option maxRecDepth 100000 in
set_option maxHeartbeats 4000000 in
theorem mX11_underWay (l : Launch) {G : GG} {Y : LY} {S : HS} {l0 : Option Nat} {l1 : Int32} {res : Int32} (hf : fX11_underWay Y S l0 l1 = some res) : MM l yX11_underWay cX11_underWay 3 (some .int) 0 0 G Y S [va_rf l0, .int l1] S (some (.int res)) := by
  refine mm_of2 (plainFor_of_name (by decide +kernel)) (Nat.le_of_ble_eq_true rfl) (c1c (cr _) (c1c (ci _) c1n)) ?_
  intro p e R s m args below meth c X H locs ls hP hl
  have X : Cx p R s m args meth c RX11 cX11_underWay 3 0 0 (fun q => q ∈ Y.1) G (some .int) := X
  have hx := X.1.1
  have hb := X.1.2.1
  have hl : LV ls 3 [(0, va_rf l0), (1, .int l1)] := hl
  unfold fX11_underWay at hf
  refine rw_aload_n X dX11_underWay_0 rfl (hl.at 0 rfl) ?_
  obtain ⟨v1, e1, hf⟩ := ob hf
  refine rw_getR X dX11_underWay_1 fl11_35 e1 rfl hP ?_
  obtain ⟨v4, e4, hf⟩ := ob hf
  refine rw_getR X dX11_underWay_4 fl11_120 e4 rfl hP ?_
  refine rw_ifnull X (tgt := 14) dX11_underWay_7 (by decide) (fun c7 => ?_) (fun c7 => ?_)
  · have hf := ifp hf c7
    refine lv_sipush (v := (-1001)) hx hb dX11_underWay_14 (by decide) ?_
    cases hf
    exact rw_iret X dX11_underWay_17 hP
  · have hf := ifn hf c7
    refine lv_iload_n hx hb dX11_underWay_10 rfl (hl.at 1 rfl) ?_
    refine lv_if_ge hx hb (tgt := 18) dX11_underWay_11 (by decide) (fun c11 => ?_) (fun c11 => ?_)
    · have hf := ifp hf c11
      refine rw_aload_n X dX11_underWay_18 rfl (hl.at 0 rfl) ?_
      obtain ⟨v19, e19, hf⟩ := ob hf
      refine rw_getR X dX11_underWay_19 fl11_35 e19 rfl hP ?_
      obtain ⟨v22, e22, hf⟩ := ob hf
      refine rw_getR X dX11_underWay_22 fl11_120 e22 rfl hP ?_
      obtain ⟨v25, e25, hf⟩ := ob hf
      refine rw_getR X dX11_underWay_25 fl11_131 e25 rfl hP ?_
      refine rv_astore_n X dX11_underWay_28 rfl hl (by decide) rfl (fun ls hl => ?_)
      have hl : LV ls 3 [(2, va_rf v25), (0, va_rf l0), (1, .int l1)] := hl
      exact wX11_underWay_29 X FU l1 v25 hf _ _ _ hP (hl.sub [2, 0] rfl)
    · have hf := ifn hf c11
      refine lv_sipush (v := (-1001)) hx hb dX11_underWay_14 (by decide) ?_
      cases hf
      exact rw_iret X dX11_underWay_17 hP
theorem dX11_pending_0 : decode cX11_pending 0 = .ok (.aload_n 0, 1) := by decide +kernel
theorem dX11_pending_1 : decode cX11_pending 1 = .ok (.getfield 35, 3) := by decide +kernel
theorem dX11_pending_4 : decode cX11_pending 4 = .ok (.getfield 120, 3) := by decide +kernel
theorem dX11_pending_7 : decode cX11_pending 7 = .ok (.ifnonnull 9, 3) := by decide +kernel
theorem dX11_pending_10 : decode cX11_pending 10 = .ok (.sipush (-1001), 3) := by decide +kernel
theorem dX11_pending_13 : decode cX11_pending 13 = .ok (.goto 13, 3) := by decide +kernel
theorem dX11_pending_16 : decode cX11_pending 16 = .ok (.aload_n 0, 1) := by decide +kernel
theorem dX11_pending_17 : decode cX11_pending 17 = .ok (.getfield 35, 3) := by decide +kernel
theorem dX11_pending_20 : decode cX11_pending 20 = .ok (.getfield 120, 3) := by decide +kernel
theorem dX11_pending_23 : decode cX11_pending 23 = .ok (.getfield 134, 3) := by decide +kernel
theorem dX11_pending_26 : decode cX11_pending 26 = .ok (.ireturn, 1) := by decide +kernel
theorem pyX11_pending : PY yX11_pending 0 := ⟨by decide +kernel, by decide +kernel, by decide +kernel⟩
def fX11_pending (Y : LY) (S : HS) (l0 : Option Nat) : Option (Int32) :=
  (gR Y 11 1104 l0 S).bind fun v1 =>
  (gR Y 2 200 v1 S).bind fun v4 =>
  if v4 = none then
    some (-1001)
  else
    (gR Y 11 1104 l0 S).bind fun v17 =>
    (gR Y 2 200 v17 S).bind fun v20 =>
    (gI Y 4 400 v20 S).bind fun v23 =>
    some v23
set_option maxRecDepth 100000 in
set_option maxHeartbeats 4000000 in
theorem mX11_pending (l : Launch) {G : GG} {Y : LY} {S : HS} {l0 : Option Nat} {res : Int32} (hf : fX11_pending Y S l0 = some res) : MM l yX11_pending cX11_pending 1 (some .int) 0 0 G Y S [va_rf l0] S (some (.int res)) := by
  refine mm_of2 (plainFor_of_name (by decide +kernel)) (Nat.le_of_ble_eq_true rfl) (c1c (cr _) c1n) ?_
  intro p e R s m args below meth c X H locs ls hP hl
  have X : Cx p R s m args meth c RX11 cX11_pending 1 0 0 (fun q => q ∈ Y.1) G (some .int) := X
  have hx := X.1.1
  have hb := X.1.2.1
  have hl : LV ls 1 [(0, va_rf l0)] := hl
  unfold fX11_pending at hf
  refine rw_aload_n X dX11_pending_0 rfl (hl.at 0 rfl) ?_
  obtain ⟨v1, e1, hf⟩ := ob hf
  refine rw_getR X dX11_pending_1 fl11_35 e1 rfl hP ?_
  obtain ⟨v4, e4, hf⟩ := ob hf
  refine rw_getR X dX11_pending_4 fl11_120 e4 rfl hP ?_
  refine rw_ifnonnull X (tgt := 16) dX11_pending_7 (by decide) (fun c7 => ?_) (fun c7 => ?_)
  · have hf := ifn hf c7
    refine rw_aload_n X dX11_pending_16 rfl (hl.at 0 rfl) ?_
    obtain ⟨v17, e17, hf⟩ := ob hf
    refine rw_getR X dX11_pending_17 fl11_35 e17 rfl hP ?_
    obtain ⟨v20, e20, hf⟩ := ob hf
    refine rw_getR X dX11_pending_20 fl11_120 e20 rfl hP ?_
    obtain ⟨v23, e23, hf⟩ := ob hf
    refine rw_getI X dX11_pending_23 fl11_134 e23 rfl hP ?_
    cases hf
    exact rw_iret X dX11_pending_26 hP
  · have hf := ifp hf c7
    refine lv_sipush (v := (-1001)) hx hb dX11_pending_10 (by decide) ?_
    refine lv_goto (tgt := 26) hx hb dX11_pending_13 (by decide) ?_
    cases hf
    exact rw_iret X dX11_pending_26 hP
theorem dX11_trace_0 : decode cX11_trace 0 = .ok (.iload_n 1, 1) := by decide +kernel
theorem dX11_trace_1 : decode cX11_trace 1 = .ok (.ifCond .lt 14, 3) := by decide +kernel
theorem dX11_trace_4 : decode cX11_trace 4 = .ok (.iload_n 1, 1) := by decide +kernel
theorem dX11_trace_5 : decode cX11_trace 5 = .ok (.aload_n 0, 1) := by decide +kernel
theorem dX11_trace_6 : decode cX11_trace 6 = .ok (.getfield 35, 3) := by decide +kernel
theorem dX11_trace_9 : decode cX11_trace 9 = .ok (.invokevirtual 173, 3) := by decide +kernel
theorem dX11_trace_12 : decode cX11_trace 12 = .ok (.if_icmp .lt 7, 3) := by decide +kernel
theorem dX11_trace_15 : decode cX11_trace 15 = .ok (.sipush (-1001), 3) := by decide +kernel
theorem dX11_trace_18 : decode cX11_trace 18 = .ok (.ireturn, 1) := by decide +kernel
theorem dX11_trace_19 : decode cX11_trace 19 = .ok (.iload_n 2, 1) := by decide +kernel
theorem dX11_trace_20 : decode cX11_trace 20 = .ok (.ifCond .eq 12, 3) := by decide +kernel
theorem dX11_trace_23 : decode cX11_trace 23 = .ok (.iload_n 2, 1) := by decide +kernel
theorem dX11_trace_24 : decode cX11_trace 24 = .ok (.iconst 1, 1) := by decide +kernel
theorem dX11_trace_25 : decode cX11_trace 25 = .ok (.if_icmp .eq 7, 3) := by decide +kernel
theorem dX11_trace_28 : decode cX11_trace 28 = .ok (.sipush (-1002), 3) := by decide +kernel
theorem dX11_trace_31 : decode cX11_trace 31 = .ok (.ireturn, 1) := by decide +kernel
theorem dX11_trace_32 : decode cX11_trace 32 = .ok (.iload_n 2, 1) := by decide +kernel
theorem dX11_trace_33 : decode cX11_trace 33 = .ok (.ifCond .ne 14, 3) := by decide +kernel
theorem dX11_trace_36 : decode cX11_trace 36 = .ok (.aload_n 0, 1) := by decide +kernel
theorem dX11_trace_37 : decode cX11_trace 37 = .ok (.getfield 35, 3) := by decide +kernel
theorem dX11_trace_40 : decode cX11_trace 40 = .ok (.iload_n 1, 1) := by decide +kernel
theorem dX11_trace_41 : decode cX11_trace 41 = .ok (.invokevirtual 176, 3) := by decide +kernel
theorem dX11_trace_44 : decode cX11_trace 44 = .ok (.goto 11, 3) := by decide +kernel
theorem dX11_trace_47 : decode cX11_trace 47 = .ok (.aload_n 0, 1) := by decide +kernel
theorem dX11_trace_48 : decode cX11_trace 48 = .ok (.getfield 35, 3) := by decide +kernel
theorem dX11_trace_51 : decode cX11_trace 51 = .ok (.iload_n 1, 1) := by decide +kernel
theorem dX11_trace_52 : decode cX11_trace 52 = .ok (.invokevirtual 180, 3) := by decide +kernel
theorem dX11_trace_55 : decode cX11_trace 55 = .ok (.ireturn, 1) := by decide +kernel
theorem pyX11_trace : PY yX11_trace 2 := ⟨by decide +kernel, by decide +kernel, by decide +kernel⟩
def fX11_trace_32 (Y : LY) (S : HS) (l0 : Option Nat) (l1 : Int32) (l2 : Int32) : Option (Int32) :=
  if l2 = 0 then
    (gR Y 11 1104 l0 S).bind fun v37 =>
    (rcv Y 2 v37).bind fun _ =>
    (fX2_tracedNode Y S v37 l1).bind fun v41 =>
    some v41
  else
    (gR Y 11 1104 l0 S).bind fun v48 =>
    (rcv Y 2 v48).bind fun _ =>
    (fX2_tracedResult Y S v48 l1).bind fun v52 =>
    some v52
set_option maxRecDepth 100000 in
set_option maxHeartbeats 4000000 in
theorem wX11_trace_32 {p : Program} {l : Launch} {e : Env} {R : Room} {s : State} {m : MethodId} {args : Array Value} {below : List Frame} {meth : Method} {c : Code} {G : GG} {Y : LY} {S : HS} {res : Int32} (X : Cx p R s m args meth c RX11 cX11_trace 3 3 64 (fun q => q ∈ Y.1) G (some .int)) : ∀ (l0 : Option Nat) (l1 : Int32) (l2 : Int32), fX11_trace_32 Y S l0 l1 l2 = some res → ∀ (H : Heap) (locs : List Loc) (ls : Array Slot), HP (fun q => q ∈ Y.1) G Y s S H locs → LV ls 3 [(0, va_rf l0), (1, .int l1), (2, .int l2)] → W p l e R s m args below meth c H locs 0 0 (MQ below (QI G Y S (some (.int res))) args s 0 0 (fun q => q ∈ Y.1)) (F0 m 32 ls []) := by
  have hx := X.1.1
  have hb := X.1.2.1
  intro l0 l1 l2 hf H locs ls hP hl
  unfold fX11_trace_32 at hf
  refine lv_iload_n hx hb dX11_trace_32 rfl (hl.at 2 rfl) ?_
  refine lv_if_ne hx hb (tgt := 47) dX11_trace_33 (by decide) (fun c33 => ?_) (fun c33 => ?_)
  · have hf := ifn hf c33
    refine rw_aload_n X dX11_trace_47 rfl (hl.at 0 rfl) ?_
    obtain ⟨v48, e48, hf⟩ := ob hf
    refine rw_getR X dX11_trace_48 fl11_35 e48 rfl hP ?_
    refine lv_iload_n hx hb dX11_trace_51 rfl (hl.at 1 rfl) ?_
    obtain ⟨u52, r52, hf⟩ := ob hf
    obtain ⟨v52, e52, hf⟩ := ob hf
    refine rw_callVi (As := [.int l1]) X dX11_trace_52 clX11_180 pyX2_tracedResult (mX2_tracedResult l e52) (by decide) r52 rfl hP rfl (catL c1n (Nat.le_of_ble_eq_true rfl)) hl.1.1 (fun H locs hP => ?_)
    cases hf
    exact rw_iret X dX11_trace_55 hP
  · have hf := ifp hf c33
    refine rw_aload_n X dX11_trace_36 rfl (hl.at 0 rfl) ?_
    obtain ⟨v37, e37, hf⟩ := ob hf
    refine rw_getR X dX11_trace_37 fl11_35 e37 rfl hP ?_
    refine lv_iload_n hx hb dX11_trace_40 rfl (hl.at 1 rfl) ?_
    obtain ⟨u41, r41, hf⟩ := ob hf
    obtain ⟨v41, e41, hf⟩ := ob hf
    refine rw_callVi (As := [.int l1]) X dX11_trace_41 clX11_176 pyX2_tracedNode (mX2_tracedNode l e41) (by decide) r41 rfl hP rfl (catL c1n (Nat.le_of_ble_eq_true rfl)) hl.1.1 (fun H locs hP => ?_)
    refine lv_goto (tgt := 55) hx hb dX11_trace_44 (by decide) ?_
    cases hf
    exact rw_iret X dX11_trace_55 hP
def fX11_trace (Y : LY) (S : HS) (l0 : Option Nat) (l1 : Int32) (l2 : Int32) : Option (Int32) :=
  if l1 < 0 then
    some (-1001)
  else
    (gR Y 11 1104 l0 S).bind fun v6 =>
    (rcv Y 2 v6).bind fun _ =>
    (fX2_entries Y S v6 ).bind fun v9 =>
    if l1 < v9 then
      if l2 = 0 then
        fX11_trace_32 Y S l0 l1 l2
      else
        if l2 = 1 then
          fX11_trace_32 Y S l0 l1 l2
        else
          some (-1002)
    else
      some (-1001)
set_option maxRecDepth 100000 in
set_option maxHeartbeats 4000000 in
theorem mX11_trace (l : Launch) {G : GG} {Y : LY} {S : HS} {l0 : Option Nat} {l1 : Int32} {l2 : Int32} {res : Int32} (hf : fX11_trace Y S l0 l1 l2 = some res) : MM l yX11_trace cX11_trace 3 (some .int) 3 64 G Y S [va_rf l0, .int l1, .int l2] S (some (.int res)) := by
  refine mm_of2 (plainFor_of_name (by decide +kernel)) (Nat.le_of_ble_eq_true rfl) (c1c (cr _) (c1c (ci _) (c1c (ci _) c1n))) ?_
  intro p e R s m args below meth c X H locs ls hP hl
  have X : Cx p R s m args meth c RX11 cX11_trace 3 3 64 (fun q => q ∈ Y.1) G (some .int) := X
  have hx := X.1.1
  have hb := X.1.2.1
  have hl : LV ls 3 [(0, va_rf l0), (1, .int l1), (2, .int l2)] := hl
  unfold fX11_trace at hf
  refine lv_iload_n hx hb dX11_trace_0 rfl (hl.at 1 rfl) ?_
  refine lv_if_lt hx hb (tgt := 15) dX11_trace_1 (by decide) (fun c1 => ?_) (fun c1 => ?_)
  · have hf := ifp hf c1
    refine lv_sipush (v := (-1001)) hx hb dX11_trace_15 (by decide) ?_
    cases hf
    exact rw_iret X dX11_trace_18 hP
  · have hf := ifn hf c1
    refine lv_iload_n hx hb dX11_trace_4 rfl (hl.at 1 rfl) ?_
    refine rw_aload_n X dX11_trace_5 rfl (hl.at 0 rfl) ?_
    obtain ⟨v6, e6, hf⟩ := ob hf
    refine rw_getR X dX11_trace_6 fl11_35 e6 rfl hP ?_
    obtain ⟨u9, r9, hf⟩ := ob hf
    obtain ⟨v9, e9, hf⟩ := ob hf
    refine rw_callVi (As := []) X dX11_trace_9 clX11_173 pyX2_entries (mX2_entries l e9) (by decide) r9 rfl hP rfl (catL (c1c (ci _) c1n) (Nat.le_of_ble_eq_true rfl)) hl.1.1 (fun H locs hP => ?_)
    refine lv_icmp_lt hx hb (tgt := 19) dX11_trace_12 (by decide) (fun c12 => ?_) (fun c12 => ?_)
    · have hf := ifp hf c12
      refine lv_iload_n hx hb dX11_trace_19 rfl (hl.at 2 rfl) ?_
      refine lv_if_eq hx hb (tgt := 32) dX11_trace_20 (by decide) (fun c20 => ?_) (fun c20 => ?_)
      · have hf := ifp hf c20
        exact wX11_trace_32 X l0 l1 l2 hf _ _ _ hP (hl.sub [0, 1, 2] rfl)
      · have hf := ifn hf c20
        refine lv_iload_n hx hb dX11_trace_23 rfl (hl.at 2 rfl) ?_
        refine lv_iconst (v := 1) hx hb dX11_trace_24 (by decide) ?_
        refine lv_icmp_eq hx hb (tgt := 32) dX11_trace_25 (by decide) (fun c25 => ?_) (fun c25 => ?_)
        · have hf := ifp hf c25
          exact wX11_trace_32 X l0 l1 l2 hf _ _ _ hP (hl.sub [0, 1, 2] rfl)
        · have hf := ifn hf c25
          refine lv_sipush (v := (-1002)) hx hb dX11_trace_28 (by decide) ?_
          cases hf
          exact rw_iret X dX11_trace_31 hP
    · have hf := ifn hf c12
      refine lv_sipush (v := (-1001)) hx hb dX11_trace_15 (by decide) ?_
      cases hf
      exact rw_iret X dX11_trace_18 hP
theorem dX11_count_0 : decode cX11_count 0 = .ok (.iload_n 1, 1) := by decide +kernel
theorem dX11_count_1 : decode cX11_count 1 = .ok (.tableswitch 147 0 10 #[59, 67, 75, 83, 91, 99, 107, 115, 123, 131, 139], 59) := by decide +kernel
theorem dX11_count_60 : decode cX11_count 60 = .ok (.aload_n 0, 1) := by decide +kernel
theorem dX11_count_61 : decode cX11_count 61 = .ok (.getfield 49, 3) := by decide +kernel
theorem dX11_count_64 : decode cX11_count 64 = .ok (.getfield 183, 3) := by decide +kernel
theorem dX11_count_67 : decode cX11_count 67 = .ok (.ireturn, 1) := by decide +kernel
theorem dX11_count_68 : decode cX11_count 68 = .ok (.aload_n 0, 1) := by decide +kernel
theorem dX11_count_69 : decode cX11_count 69 = .ok (.getfield 35, 3) := by decide +kernel
theorem dX11_count_72 : decode cX11_count 72 = .ok (.getfield 186, 3) := by decide +kernel
theorem dX11_count_75 : decode cX11_count 75 = .ok (.ireturn, 1) := by decide +kernel
theorem dX11_count_76 : decode cX11_count 76 = .ok (.aload_n 0, 1) := by decide +kernel
theorem dX11_count_77 : decode cX11_count 77 = .ok (.getfield 35, 3) := by decide +kernel
theorem dX11_count_80 : decode cX11_count 80 = .ok (.getfield 189, 3) := by decide +kernel
theorem dX11_count_83 : decode cX11_count 83 = .ok (.ireturn, 1) := by decide +kernel
theorem dX11_count_84 : decode cX11_count 84 = .ok (.aload_n 0, 1) := by decide +kernel
theorem dX11_count_85 : decode cX11_count 85 = .ok (.getfield 35, 3) := by decide +kernel
theorem dX11_count_88 : decode cX11_count 88 = .ok (.getfield 190, 3) := by decide +kernel
theorem dX11_count_91 : decode cX11_count 91 = .ok (.ireturn, 1) := by decide +kernel
theorem dX11_count_92 : decode cX11_count 92 = .ok (.aload_n 0, 1) := by decide +kernel
theorem dX11_count_93 : decode cX11_count 93 = .ok (.getfield 35, 3) := by decide +kernel
theorem dX11_count_96 : decode cX11_count 96 = .ok (.getfield 191, 3) := by decide +kernel
theorem dX11_count_99 : decode cX11_count 99 = .ok (.ireturn, 1) := by decide +kernel
theorem dX11_count_100 : decode cX11_count 100 = .ok (.aload_n 0, 1) := by decide +kernel
theorem dX11_count_101 : decode cX11_count 101 = .ok (.getfield 35, 3) := by decide +kernel
theorem dX11_count_104 : decode cX11_count 104 = .ok (.getfield 113, 3) := by decide +kernel
theorem dX11_count_107 : decode cX11_count 107 = .ok (.ireturn, 1) := by decide +kernel
theorem dX11_count_108 : decode cX11_count 108 = .ok (.aload_n 0, 1) := by decide +kernel
theorem dX11_count_109 : decode cX11_count 109 = .ok (.getfield 35, 3) := by decide +kernel
theorem dX11_count_112 : decode cX11_count 112 = .ok (.getfield 192, 3) := by decide +kernel
theorem dX11_count_115 : decode cX11_count 115 = .ok (.ireturn, 1) := by decide +kernel
theorem dX11_count_116 : decode cX11_count 116 = .ok (.aload_n 0, 1) := by decide +kernel
theorem dX11_count_117 : decode cX11_count 117 = .ok (.getfield 49, 3) := by decide +kernel
theorem dX11_count_120 : decode cX11_count 120 = .ok (.invokevirtual 195, 3) := by decide +kernel
theorem dX11_count_123 : decode cX11_count 123 = .ok (.ireturn, 1) := by decide +kernel
theorem dX11_count_124 : decode cX11_count 124 = .ok (.aload_n 0, 1) := by decide +kernel
theorem dX11_count_125 : decode cX11_count 125 = .ok (.getfield 35, 3) := by decide +kernel
theorem dX11_count_128 : decode cX11_count 128 = .ok (.getfield 198, 3) := by decide +kernel
theorem dX11_count_131 : decode cX11_count 131 = .ok (.ireturn, 1) := by decide +kernel
theorem dX11_count_132 : decode cX11_count 132 = .ok (.aload_n 0, 1) := by decide +kernel
theorem dX11_count_133 : decode cX11_count 133 = .ok (.getfield 35, 3) := by decide +kernel
theorem dX11_count_136 : decode cX11_count 136 = .ok (.invokevirtual 173, 3) := by decide +kernel
theorem dX11_count_139 : decode cX11_count 139 = .ok (.ireturn, 1) := by decide +kernel
theorem dX11_count_140 : decode cX11_count 140 = .ok (.aload_n 0, 1) := by decide +kernel
theorem dX11_count_141 : decode cX11_count 141 = .ok (.getfield 10, 3) := by decide +kernel
theorem dX11_count_144 : decode cX11_count 144 = .ok (.getfield 60, 3) := by decide +kernel
theorem dX11_count_147 : decode cX11_count 147 = .ok (.ireturn, 1) := by decide +kernel
theorem dX11_count_148 : decode cX11_count 148 = .ok (.sipush (-1002), 3) := by decide +kernel
theorem dX11_count_151 : decode cX11_count 151 = .ok (.ireturn, 1) := by decide +kernel
theorem pyX11_count : PY yX11_count 1 := ⟨by decide +kernel, by decide +kernel, by decide +kernel⟩
def fX11_count (Y : LY) (S : HS) (l0 : Option Nat) (l1 : Int32) : Option (Int32) :=
  if l1 = 0 then
    (gR Y 11 1107 l0 S).bind fun v61 =>
    (gI Y 8 801 v61 S).bind fun v64 =>
    some v64
  else
  if l1 = 1 then
    (gR Y 11 1104 l0 S).bind fun v69 =>
    (gI Y 2 201 v69 S).bind fun v72 =>
    some v72
  else
  if l1 = 2 then
    (gR Y 11 1104 l0 S).bind fun v77 =>
    (gI Y 2 202 v77 S).bind fun v80 =>
    some v80
  else
  if l1 = 3 then
    (gR Y 11 1104 l0 S).bind fun v85 =>
    (gI Y 2 203 v85 S).bind fun v88 =>
    some v88
  else
  if l1 = 4 then
    (gR Y 11 1104 l0 S).bind fun v93 =>
    (gI Y 2 204 v93 S).bind fun v96 =>
    some v96
  else
  if l1 = 5 then
    (gR Y 11 1104 l0 S).bind fun v101 =>
    (gI Y 2 205 v101 S).bind fun v104 =>
    some v104
  else
  if l1 = 6 then
    (gR Y 11 1104 l0 S).bind fun v109 =>
    (gI Y 2 206 v109 S).bind fun v112 =>
    some v112
  else
  if l1 = 7 then
    (gR Y 11 1107 l0 S).bind fun v117 =>
    (rcv Y 8 v117).bind fun _ =>
    (fX8_runningNodes Y S v117 ).bind fun v120 =>
    some v120
  else
  if l1 = 8 then
    (gR Y 11 1104 l0 S).bind fun v125 =>
    (gI Y 2 207 v125 S).bind fun v128 =>
    some v128
  else
  if l1 = 9 then
    (gR Y 11 1104 l0 S).bind fun v133 =>
    (rcv Y 2 v133).bind fun _ =>
    (fX2_entries Y S v133 ).bind fun v136 =>
    some v136
  else
  if l1 = 10 then
    (gR Y 11 1100 l0 S).bind fun v141 =>
    (gI Y 7 701 v141 S).bind fun v144 =>
    some v144
  else
  some (-1002)
set_option maxRecDepth 100000 in
set_option maxHeartbeats 4000000 in
theorem mX11_count (l : Launch) {G : GG} {Y : LY} {S : HS} {l0 : Option Nat} {l1 : Int32} {res : Int32} (hf : fX11_count Y S l0 l1 = some res) : MM l yX11_count cX11_count 2 (some .int) 2 50 G Y S [va_rf l0, .int l1] S (some (.int res)) := by
  refine mm_of2 (plainFor_of_name (by decide +kernel)) (Nat.le_of_ble_eq_true rfl) (c1c (cr _) (c1c (ci _) c1n)) ?_
  intro p e R s m args below meth c X H locs ls hP hl
  have X : Cx p R s m args meth c RX11 cX11_count 2 2 50 (fun q => q ∈ Y.1) G (some .int) := X
  have hx := X.1.1
  have hb := X.1.2.1
  have hl : LV ls 2 [(0, va_rf l0), (1, .int l1)] := hl
  unfold fX11_count at hf
  refine lv_iload_n hx hb dX11_count_0 rfl (hl.at 1 rfl) ?_
  by_cases c1_0 : l1 = 0
  · have hf := ifp hf c1_0
    refine lv_tableIn (tgt := 60) hx hb dX11_count_1 (by rw [c1_0]; decide) (by rw [c1_0]; decide) (by rw [c1_0]; rfl) (by decide) ?_
    refine rw_aload_n X dX11_count_60 rfl (hl.at 0 rfl) ?_
    obtain ⟨v61, e61, hf⟩ := ob hf
    refine rw_getR X dX11_count_61 fl11_49 e61 rfl hP ?_
    obtain ⟨v64, e64, hf⟩ := ob hf
    refine rw_getI X dX11_count_64 fl11_183 e64 rfl hP ?_
    cases hf
    exact rw_iret X dX11_count_67 hP
  have hf := ifn hf c1_0
  by_cases c1_1 : l1 = 1
  · have hf := ifp hf c1_1
    refine lv_tableIn (tgt := 68) hx hb dX11_count_1 (by rw [c1_1]; decide) (by rw [c1_1]; decide) (by rw [c1_1]; rfl) (by decide) ?_
    refine rw_aload_n X dX11_count_68 rfl (hl.at 0 rfl) ?_
    obtain ⟨v69, e69, hf⟩ := ob hf
    refine rw_getR X dX11_count_69 fl11_35 e69 rfl hP ?_
    obtain ⟨v72, e72, hf⟩ := ob hf
    refine rw_getI X dX11_count_72 fl11_186 e72 rfl hP ?_
    cases hf
    exact rw_iret X dX11_count_75 hP
  have hf := ifn hf c1_1
  by_cases c1_2 : l1 = 2
  · have hf := ifp hf c1_2
    refine lv_tableIn (tgt := 76) hx hb dX11_count_1 (by rw [c1_2]; decide) (by rw [c1_2]; decide) (by rw [c1_2]; rfl) (by decide) ?_
    refine rw_aload_n X dX11_count_76 rfl (hl.at 0 rfl) ?_
    obtain ⟨v77, e77, hf⟩ := ob hf
    refine rw_getR X dX11_count_77 fl11_35 e77 rfl hP ?_
    obtain ⟨v80, e80, hf⟩ := ob hf
    refine rw_getI X dX11_count_80 fl11_189 e80 rfl hP ?_
    cases hf
    exact rw_iret X dX11_count_83 hP
  have hf := ifn hf c1_2
  by_cases c1_3 : l1 = 3
  · have hf := ifp hf c1_3
    refine lv_tableIn (tgt := 84) hx hb dX11_count_1 (by rw [c1_3]; decide) (by rw [c1_3]; decide) (by rw [c1_3]; rfl) (by decide) ?_
    refine rw_aload_n X dX11_count_84 rfl (hl.at 0 rfl) ?_
    obtain ⟨v85, e85, hf⟩ := ob hf
    refine rw_getR X dX11_count_85 fl11_35 e85 rfl hP ?_
    obtain ⟨v88, e88, hf⟩ := ob hf
    refine rw_getI X dX11_count_88 fl11_190 e88 rfl hP ?_
    cases hf
    exact rw_iret X dX11_count_91 hP
  have hf := ifn hf c1_3
  by_cases c1_4 : l1 = 4
  · have hf := ifp hf c1_4
    refine lv_tableIn (tgt := 92) hx hb dX11_count_1 (by rw [c1_4]; decide) (by rw [c1_4]; decide) (by rw [c1_4]; rfl) (by decide) ?_
    refine rw_aload_n X dX11_count_92 rfl (hl.at 0 rfl) ?_
    obtain ⟨v93, e93, hf⟩ := ob hf
    refine rw_getR X dX11_count_93 fl11_35 e93 rfl hP ?_
    obtain ⟨v96, e96, hf⟩ := ob hf
    refine rw_getI X dX11_count_96 fl11_191 e96 rfl hP ?_
    cases hf
    exact rw_iret X dX11_count_99 hP
  have hf := ifn hf c1_4
  by_cases c1_5 : l1 = 5
  · have hf := ifp hf c1_5
    refine lv_tableIn (tgt := 100) hx hb dX11_count_1 (by rw [c1_5]; decide) (by rw [c1_5]; decide) (by rw [c1_5]; rfl) (by decide) ?_
    refine rw_aload_n X dX11_count_100 rfl (hl.at 0 rfl) ?_
    obtain ⟨v101, e101, hf⟩ := ob hf
    refine rw_getR X dX11_count_101 fl11_35 e101 rfl hP ?_
    obtain ⟨v104, e104, hf⟩ := ob hf
    refine rw_getI X dX11_count_104 fl11_113 e104 rfl hP ?_
    cases hf
    exact rw_iret X dX11_count_107 hP
  have hf := ifn hf c1_5
  by_cases c1_6 : l1 = 6
  · have hf := ifp hf c1_6
    refine lv_tableIn (tgt := 108) hx hb dX11_count_1 (by rw [c1_6]; decide) (by rw [c1_6]; decide) (by rw [c1_6]; rfl) (by decide) ?_
    refine rw_aload_n X dX11_count_108 rfl (hl.at 0 rfl) ?_
    obtain ⟨v109, e109, hf⟩ := ob hf
    refine rw_getR X dX11_count_109 fl11_35 e109 rfl hP ?_
    obtain ⟨v112, e112, hf⟩ := ob hf
    refine rw_getI X dX11_count_112 fl11_192 e112 rfl hP ?_
    cases hf
    exact rw_iret X dX11_count_115 hP
  have hf := ifn hf c1_6
  by_cases c1_7 : l1 = 7
  · have hf := ifp hf c1_7
    refine lv_tableIn (tgt := 116) hx hb dX11_count_1 (by rw [c1_7]; decide) (by rw [c1_7]; decide) (by rw [c1_7]; rfl) (by decide) ?_
    refine rw_aload_n X dX11_count_116 rfl (hl.at 0 rfl) ?_
    obtain ⟨v117, e117, hf⟩ := ob hf
    refine rw_getR X dX11_count_117 fl11_49 e117 rfl hP ?_
    obtain ⟨u120, r120, hf⟩ := ob hf
    obtain ⟨v120, e120, hf⟩ := ob hf
    refine rw_callVi (As := []) X dX11_count_120 clX11_195 pyX8_runningNodes (mX8_runningNodes l e120) (by decide) r120 rfl hP rfl (catL c1n (Nat.le_of_ble_eq_true rfl)) hl.1.1 (fun H locs hP => ?_)
    cases hf
    exact rw_iret X dX11_count_123 hP
  have hf := ifn hf c1_7
  by_cases c1_8 : l1 = 8
  · have hf := ifp hf c1_8
    refine lv_tableIn (tgt := 124) hx hb dX11_count_1 (by rw [c1_8]; decide) (by rw [c1_8]; decide) (by rw [c1_8]; rfl) (by decide) ?_
    refine rw_aload_n X dX11_count_124 rfl (hl.at 0 rfl) ?_
    obtain ⟨v125, e125, hf⟩ := ob hf
    refine rw_getR X dX11_count_125 fl11_35 e125 rfl hP ?_
    obtain ⟨v128, e128, hf⟩ := ob hf
    refine rw_getI X dX11_count_128 fl11_198 e128 rfl hP ?_
    cases hf
    exact rw_iret X dX11_count_131 hP
  have hf := ifn hf c1_8
  by_cases c1_9 : l1 = 9
  · have hf := ifp hf c1_9
    refine lv_tableIn (tgt := 132) hx hb dX11_count_1 (by rw [c1_9]; decide) (by rw [c1_9]; decide) (by rw [c1_9]; rfl) (by decide) ?_
    refine rw_aload_n X dX11_count_132 rfl (hl.at 0 rfl) ?_
    obtain ⟨v133, e133, hf⟩ := ob hf
    refine rw_getR X dX11_count_133 fl11_35 e133 rfl hP ?_
    obtain ⟨u136, r136, hf⟩ := ob hf
    obtain ⟨v136, e136, hf⟩ := ob hf
    refine rw_callVi (As := []) X dX11_count_136 clX11_173 pyX2_entries (mX2_entries l e136) (by decide) r136 rfl hP rfl (catL c1n (Nat.le_of_ble_eq_true rfl)) hl.1.1 (fun H locs hP => ?_)
    cases hf
    exact rw_iret X dX11_count_139 hP
  have hf := ifn hf c1_9
  by_cases c1_10 : l1 = 10
  · have hf := ifp hf c1_10
    refine lv_tableIn (tgt := 140) hx hb dX11_count_1 (by rw [c1_10]; decide) (by rw [c1_10]; decide) (by rw [c1_10]; rfl) (by decide) ?_
    refine rw_aload_n X dX11_count_140 rfl (hl.at 0 rfl) ?_
    obtain ⟨v141, e141, hf⟩ := ob hf
    refine rw_getR X dX11_count_141 fl11_10 e141 rfl hP ?_
    obtain ⟨v144, e144, hf⟩ := ob hf
    refine rw_getI X dX11_count_144 fl11_60 e144 rfl hP ?_
    cases hf
    exact rw_iret X dX11_count_147 hP
  have hf := ifn hf c1_10
  have t1_0 := tsw (k := 0) (v := 0) (by decide) c1_0
  have t1_1 := tsw (k := 1) (v := 1) (by decide) c1_1
  have t1_2 := tsw (k := 2) (v := 2) (by decide) c1_2
  have t1_3 := tsw (k := 3) (v := 3) (by decide) c1_3
  have t1_4 := tsw (k := 4) (v := 4) (by decide) c1_4
  have t1_5 := tsw (k := 5) (v := 5) (by decide) c1_5
  have t1_6 := tsw (k := 6) (v := 6) (by decide) c1_6
  have t1_7 := tsw (k := 7) (v := 7) (by decide) c1_7
  have t1_8 := tsw (k := 8) (v := 8) (by decide) c1_8
  have t1_9 := tsw (k := 9) (v := 9) (by decide) c1_9
  have t1_10 := tsw (k := 10) (v := 10) (by decide) c1_10
  refine lv_tableOut (tgt := 148) hx hb dX11_count_1 (by omega) (by decide) ?_
  refine lv_sipush (v := (-1002)) hx hb dX11_count_148 (by decide) ?_
  cases hf
  exact rw_iret X dX11_count_151 hP
theorem dX11_written_0 : decode cX11_written 0 = .ok (.aload_n 0, 1) := by decide +kernel
theorem dX11_written_1 : decode cX11_written 1 = .ok (.getfield 16, 3) := by decide +kernel
theorem dX11_written_4 : decode cX11_written 4 = .ok (.iload_n 1, 1) := by decide +kernel
theorem dX11_written_5 : decode cX11_written 5 = .ok (.invokevirtual 209, 3) := by decide +kernel
theorem dX11_written_8 : decode cX11_written 8 = .ok (.istore_n 2, 1) := by decide +kernel
theorem dX11_written_9 : decode cX11_written 9 = .ok (.iload_n 2, 1) := by decide +kernel
theorem dX11_written_10 : decode cX11_written 10 = .ok (.ifCond .ge 9, 3) := by decide +kernel
theorem dX11_written_13 : decode cX11_written 13 = .ok (.sipush (-1001), 3) := by decide +kernel
theorem dX11_written_16 : decode cX11_written 16 = .ok (.goto 4, 3) := by decide +kernel
theorem dX11_written_19 : decode cX11_written 19 = .ok (.iload_n 2, 1) := by decide +kernel
theorem dX11_written_20 : decode cX11_written 20 = .ok (.ireturn, 1) := by decide +kernel
theorem pyX11_written : PY yX11_written 1 := ⟨by decide +kernel, by decide +kernel, by decide +kernel⟩
def fX11_written (Y : LY) (S : HS) (l0 : Option Nat) (l1 : Int32) : Option (Int32) :=
  (gR Y 11 1101 l0 S).bind fun v1 =>
  (rcv Y 7 v1).bind fun _ =>
  (fX7_codeAt Y S v1 l1).bind fun v5 =>
  if 0 ≤ v5 then
    some v5
  else
    some (-1001)
set_option maxRecDepth 100000 in
set_option maxHeartbeats 4000000 in
theorem mX11_written (l : Launch) {G : GG} {Y : LY} {S : HS} {l0 : Option Nat} {l1 : Int32} {res : Int32} (hf : fX11_written Y S l0 l1 = some res) : MM l yX11_written cX11_written 3 (some .int) 1 21 G Y S [va_rf l0, .int l1] S (some (.int res)) := by
  refine mm_of2 (plainFor_of_name (by decide +kernel)) (Nat.le_of_ble_eq_true rfl) (c1c (cr _) (c1c (ci _) c1n)) ?_
  intro p e R s m args below meth c X H locs ls hP hl
  have X : Cx p R s m args meth c RX11 cX11_written 3 1 21 (fun q => q ∈ Y.1) G (some .int) := X
  have hx := X.1.1
  have hb := X.1.2.1
  have hl : LV ls 3 [(0, va_rf l0), (1, .int l1)] := hl
  unfold fX11_written at hf
  refine rw_aload_n X dX11_written_0 rfl (hl.at 0 rfl) ?_
  obtain ⟨v1, e1, hf⟩ := ob hf
  refine rw_getR X dX11_written_1 fl11_16 e1 rfl hP ?_
  refine lv_iload_n hx hb dX11_written_4 rfl (hl.at 1 rfl) ?_
  obtain ⟨u5, r5, hf⟩ := ob hf
  obtain ⟨v5, e5, hf⟩ := ob hf
  refine rw_callVi (As := [.int l1]) X dX11_written_5 clX11_209 pyX7_codeAt (mX7_codeAt l e5) (by decide) r5 rfl hP rfl (catL c1n (Nat.le_of_ble_eq_true rfl)) hl.1.1 (fun H locs hP => ?_)
  refine rv_istore_n X dX11_written_8 rfl hl (by decide) rfl (fun ls hl => ?_)
  have hl : LV ls 3 [(2, .int v5), (0, va_rf l0), (1, .int l1)] := hl
  refine lv_iload_n hx hb dX11_written_9 rfl (hl.at 0 rfl) ?_
  refine lv_if_ge hx hb (tgt := 19) dX11_written_10 (by decide) (fun c10 => ?_) (fun c10 => ?_)
  · have hf := ifp hf c10
    refine lv_iload_n hx hb dX11_written_19 rfl (hl.at 0 rfl) ?_
    cases hf
    exact rw_iret X dX11_written_20 hP
  · have hf := ifn hf c10
    refine lv_sipush (v := (-1001)) hx hb dX11_written_13 (by decide) ?_
    refine lv_goto (tgt := 20) hx hb dX11_written_16 (by decide) ?_
    cases hf
    exact rw_iret X dX11_written_20 hP
theorem dX11_save_0 : decode cX11_save 0 = .ok (.aload_n 0, 1) := by decide +kernel
theorem dX11_save_1 : decode cX11_save 1 = .ok (.getfield 49, 3) := by decide +kernel
theorem dX11_save_4 : decode cX11_save 4 = .ok (.getfield 183, 3) := by decide +kernel
theorem dX11_save_7 : decode cX11_save 7 = .ok (.ifCond .ne 7, 3) := by decide +kernel
theorem dX11_save_10 : decode cX11_save 10 = .ok (.sipush (-1004), 3) := by decide +kernel
theorem dX11_save_13 : decode cX11_save 13 = .ok (.ireturn, 1) := by decide +kernel
theorem dX11_save_14 : decode cX11_save 14 = .ok (.aload_n 0, 1) := by decide +kernel
theorem dX11_save_15 : decode cX11_save 15 = .ok (.getfield 39, 3) := by decide +kernel
theorem dX11_save_18 : decode cX11_save 18 = .ok (.aload_n 0, 1) := by decide +kernel
theorem dX11_save_19 : decode cX11_save 19 = .ok (.getfield 49, 3) := by decide +kernel
theorem dX11_save_22 : decode cX11_save 22 = .ok (.aload_n 0, 1) := by decide +kernel
theorem dX11_save_23 : decode cX11_save 23 = .ok (.getfield 30, 3) := by decide +kernel
theorem dX11_save_26 : decode cX11_save 26 = .ok (.aload_n 0, 1) := by decide +kernel
theorem dX11_save_27 : decode cX11_save 27 = .ok (.getfield 35, 3) := by decide +kernel
theorem dX11_save_30 : decode cX11_save 30 = .ok (.invokevirtual 106, 3) := by decide +kernel
theorem dX11_save_33 : decode cX11_save 33 = .ok (.aload_n 0, 1) := by decide +kernel
theorem dX11_save_34 : decode cX11_save 34 = .ok (.iconst 1, 1) := by decide +kernel
theorem dX11_save_35 : decode cX11_save 35 = .ok (.putfield 56, 3) := by decide +kernel
theorem dX11_save_38 : decode cX11_save 38 = .ok (.aload_n 0, 1) := by decide +kernel
theorem dX11_save_39 : decode cX11_save 39 = .ok (.getfield 49, 3) := by decide +kernel
theorem dX11_save_42 : decode cX11_save 42 = .ok (.getfield 183, 3) := by decide +kernel
theorem dX11_save_45 : decode cX11_save 45 = .ok (.ireturn, 1) := by decide +kernel
theorem pyX11_save : PY yX11_save 0 := ⟨by decide +kernel, by decide +kernel, by decide +kernel⟩
def fX11_save (Y : LY) (S : HS) (l0 : Option Nat) : Option (HS × Int32) :=
  (gR Y 11 1107 l0 S).bind fun v1 =>
  (gI Y 8 801 v1 S).bind fun v4 =>
  if v4 = 0 then
    some (S, (-1004))
  else
    (gR Y 11 1105 l0 S).bind fun v15 =>
    (gR Y 11 1107 l0 S).bind fun v19 =>
    (gR Y 11 1103 l0 S).bind fun v23 =>
    (gR Y 11 1104 l0 S).bind fun v27 =>
    (rcv Y 6 v15).bind fun _ =>
    (fX6_take Y S v15 v19 v23 v27).bind fun S30 =>
    (pZ Y 11 1109 l0 1 S30).bind fun S35 =>
    (gR Y 11 1107 l0 S35).bind fun v39 =>
    (gI Y 8 801 v39 S35).bind fun v42 =>
    some (S35, v42)
set_option maxRecDepth 100000 in
set_option maxHeartbeats 4000000 in
theorem mX11_save (l : Launch) {G : GG} {Y : LY} {S : HS} {l0 : Option Nat} {res : HS × Int32} (hf : fX11_save Y S l0 = some res) : MM l yX11_save cX11_save 1 (some .int) 3 106 G Y S [va_rf l0] res.1 (some (.int res.2)) := by
  refine mm_of2 (plainFor_of_name (by decide +kernel)) (Nat.le_of_ble_eq_true rfl) (c1c (cr _) c1n) ?_
  intro p e R s m args below meth c X H locs ls hP hl
  have X : Cx p R s m args meth c RX11 cX11_save 1 3 106 (fun q => q ∈ Y.1) G (some .int) := X
  have hx := X.1.1
  have hb := X.1.2.1
  have hl : LV ls 1 [(0, va_rf l0)] := hl
  unfold fX11_save at hf
  refine rw_aload_n X dX11_save_0 rfl (hl.at 0 rfl) ?_
  obtain ⟨v1, e1, hf⟩ := ob hf
  refine rw_getR X dX11_save_1 fl11_49 e1 rfl hP ?_
  obtain ⟨v4, e4, hf⟩ := ob hf
  refine rw_getI X dX11_save_4 fl11_183 e4 rfl hP ?_
  refine lv_if_ne hx hb (tgt := 14) dX11_save_7 (by decide) (fun c7 => ?_) (fun c7 => ?_)
  · have hf := ifn hf c7
    refine rw_aload_n X dX11_save_14 rfl (hl.at 0 rfl) ?_
    obtain ⟨v15, e15, hf⟩ := ob hf
    refine rw_getR X dX11_save_15 fl11_39 e15 rfl hP ?_
    refine rw_aload_n X dX11_save_18 rfl (hl.at 0 rfl) ?_
    obtain ⟨v19, e19, hf⟩ := ob hf
    refine rw_getR X dX11_save_19 fl11_49 e19 rfl hP ?_
    refine rw_aload_n X dX11_save_22 rfl (hl.at 0 rfl) ?_
    obtain ⟨v23, e23, hf⟩ := ob hf
    refine rw_getR X dX11_save_23 fl11_30 e23 rfl hP ?_
    refine rw_aload_n X dX11_save_26 rfl (hl.at 0 rfl) ?_
    obtain ⟨v27, e27, hf⟩ := ob hf
    refine rw_getR X dX11_save_27 fl11_35 e27 rfl hP ?_
    obtain ⟨u30, r30, hf⟩ := ob hf
    obtain ⟨S30, e30, hf⟩ := ob hf
    refine rw_callVv (As := [va_rf v19, va_rf v23, va_rf v27]) X dX11_save_30 clX11_106 pyX6_take (mX6_take l e30) (by decide) r30 rfl hP rfl (catL c1n (Nat.le_of_ble_eq_true rfl)) hl.1.1 (fun H locs hP => ?_)
    refine rw_aload_n X dX11_save_33 rfl (hl.at 0 rfl) ?_
    refine lv_iconst (v := 1) hx hb dX11_save_34 (by decide) ?_
    obtain ⟨S35, e35, hf⟩ := ob hf
    refine rw_putZ X dX11_save_35 fl11_56 fw11_9 e35 rfl hP (fun H locs hP => ?_)
    refine rw_aload_n X dX11_save_38 rfl (hl.at 0 rfl) ?_
    obtain ⟨v39, e39, hf⟩ := ob hf
    refine rw_getR X dX11_save_39 fl11_49 e39 rfl hP ?_
    obtain ⟨v42, e42, hf⟩ := ob hf
    refine rw_getI X dX11_save_42 fl11_183 e42 rfl hP ?_
    cases hf
    exact rw_iret X dX11_save_45 hP
  · have hf := ifp hf c7
    refine lv_sipush (v := (-1004)) hx hb dX11_save_10 (by decide) ?_
    cases hf
    exact rw_iret X dX11_save_13 hP
theorem dX11_restore_0 : decode cX11_restore 0 = .ok (.aload_n 0, 1) := by decide +kernel
theorem dX11_restore_1 : decode cX11_restore 1 = .ok (.getfield 56, 3) := by decide +kernel
theorem dX11_restore_4 : decode cX11_restore 4 = .ok (.ifCond .ne 7, 3) := by decide +kernel
theorem dX11_restore_7 : decode cX11_restore 7 = .ok (.sipush (-1001), 3) := by decide +kernel
theorem dX11_restore_10 : decode cX11_restore 10 = .ok (.ireturn, 1) := by decide +kernel
theorem dX11_restore_11 : decode cX11_restore 11 = .ok (.aload_n 0, 1) := by decide +kernel
theorem dX11_restore_12 : decode cX11_restore 12 = .ok (.getfield 39, 3) := by decide +kernel
theorem dX11_restore_15 : decode cX11_restore 15 = .ok (.aload_n 0, 1) := by decide +kernel
theorem dX11_restore_16 : decode cX11_restore 16 = .ok (.getfield 49, 3) := by decide +kernel
theorem dX11_restore_19 : decode cX11_restore 19 = .ok (.aload_n 0, 1) := by decide +kernel
theorem dX11_restore_20 : decode cX11_restore 20 = .ok (.getfield 30, 3) := by decide +kernel
theorem dX11_restore_23 : decode cX11_restore 23 = .ok (.aload_n 0, 1) := by decide +kernel
theorem dX11_restore_24 : decode cX11_restore 24 = .ok (.getfield 35, 3) := by decide +kernel
theorem dX11_restore_27 : decode cX11_restore 27 = .ok (.invokevirtual 110, 3) := by decide +kernel
theorem dX11_restore_30 : decode cX11_restore 30 = .ok (.aload_n 0, 1) := by decide +kernel
theorem dX11_restore_31 : decode cX11_restore 31 = .ok (.getfield 49, 3) := by decide +kernel
theorem dX11_restore_34 : decode cX11_restore 34 = .ok (.getfield 183, 3) := by decide +kernel
theorem dX11_restore_37 : decode cX11_restore 37 = .ok (.ireturn, 1) := by decide +kernel
theorem pyX11_restore : PY yX11_restore 0 := ⟨by decide +kernel, by decide +kernel, by decide +kernel⟩
def fX11_restore (Y : LY) (S : HS) (l0 : Option Nat) : Option (HS × Int32) :=
  (gI Y 11 1109 l0 S).bind fun v1 =>
  if v1 = 0 then
    some (S, (-1001))
  else
    (gR Y 11 1105 l0 S).bind fun v12 =>
    (gR Y 11 1107 l0 S).bind fun v16 =>
    (gR Y 11 1103 l0 S).bind fun v20 =>
    (gR Y 11 1104 l0 S).bind fun v24 =>
    (rcv Y 6 v12).bind fun _ =>
    (fX6_giveBack Y S v12 v16 v20 v24).bind fun S27 =>
    (gR Y 11 1107 l0 S27).bind fun v31 =>
    (gI Y 8 801 v31 S27).bind fun v34 =>
    some (S27, v34)
set_option maxRecDepth 100000 in
set_option maxHeartbeats 4000000 in
theorem mX11_restore (l : Launch) {G : GG} {Y : LY} {S : HS} {l0 : Option Nat} {res : HS × Int32} (hf : fX11_restore Y S l0 = some res) : MM l yX11_restore cX11_restore 1 (some .int) 3 106 G Y S [va_rf l0] res.1 (some (.int res.2)) := by
  refine mm_of2 (plainFor_of_name (by decide +kernel)) (Nat.le_of_ble_eq_true rfl) (c1c (cr _) c1n) ?_
  intro p e R s m args below meth c X H locs ls hP hl
  have X : Cx p R s m args meth c RX11 cX11_restore 1 3 106 (fun q => q ∈ Y.1) G (some .int) := X
  have hx := X.1.1
  have hb := X.1.2.1
  have hl : LV ls 1 [(0, va_rf l0)] := hl
  unfold fX11_restore at hf
  refine rw_aload_n X dX11_restore_0 rfl (hl.at 0 rfl) ?_
  obtain ⟨v1, e1, hf⟩ := ob hf
  refine rw_getI X dX11_restore_1 fl11_56 e1 rfl hP ?_
  refine lv_if_ne hx hb (tgt := 11) dX11_restore_4 (by decide) (fun c4 => ?_) (fun c4 => ?_)
  · have hf := ifn hf c4
    refine rw_aload_n X dX11_restore_11 rfl (hl.at 0 rfl) ?_
    obtain ⟨v12, e12, hf⟩ := ob hf
    refine rw_getR X dX11_restore_12 fl11_39 e12 rfl hP ?_
    refine rw_aload_n X dX11_restore_15 rfl (hl.at 0 rfl) ?_
    obtain ⟨v16, e16, hf⟩ := ob hf
    refine rw_getR X dX11_restore_16 fl11_49 e16 rfl hP ?_
    refine rw_aload_n X dX11_restore_19 rfl (hl.at 0 rfl) ?_
    obtain ⟨v20, e20, hf⟩ := ob hf
    refine rw_getR X dX11_restore_20 fl11_30 e20 rfl hP ?_
    refine rw_aload_n X dX11_restore_23 rfl (hl.at 0 rfl) ?_
    obtain ⟨v24, e24, hf⟩ := ob hf
    refine rw_getR X dX11_restore_24 fl11_35 e24 rfl hP ?_
    obtain ⟨u27, r27, hf⟩ := ob hf
    obtain ⟨S27, e27, hf⟩ := ob hf
    refine rw_callVv (As := [va_rf v16, va_rf v20, va_rf v24]) X dX11_restore_27 clX11_110 pyX6_giveBack (mX6_giveBack l e27) (by decide) r27 rfl hP rfl (catL c1n (Nat.le_of_ble_eq_true rfl)) hl.1.1 (fun H locs hP => ?_)
    refine rw_aload_n X dX11_restore_30 rfl (hl.at 0 rfl) ?_
    obtain ⟨v31, e31, hf⟩ := ob hf
    refine rw_getR X dX11_restore_31 fl11_49 e31 rfl hP ?_
    obtain ⟨v34, e34, hf⟩ := ob hf
    refine rw_getI X dX11_restore_34 fl11_183 e34 rfl hP ?_
    cases hf
    exact rw_iret X dX11_restore_37 hP
  · have hf := ifp hf c4
    refine lv_sipush (v := (-1001)) hx hb dX11_restore_7 (by decide) ?_
    cases hf
    exact rw_iret X dX11_restore_10 hP
end
section
/-! printed by wip/whole/gen/gen_parts.py: 16.writer -/
theorem dX10_hasNumber_0 : decode cX10_hasNumber 0 = .ok (.aload_n 1, 1) := by decide +kernel
theorem dX10_hasNumber_1 : decode cX10_hasNumber 1 = .ok (.getfield 37, 3) := by decide +kernel
theorem dX10_hasNumber_4 : decode cX10_hasNumber 4 = .ok (.tableswitch 78 0 14 #[76, 76, 78, 78, 78, 78, 78, 78, 76, 78, 76, 76, 78, 76, 76], 76) := by decide +kernel
theorem dX10_hasNumber_80 : decode cX10_hasNumber 80 = .ok (.iconst 1, 1) := by decide +kernel
theorem dX10_hasNumber_81 : decode cX10_hasNumber 81 = .ok (.ireturn, 1) := by decide +kernel
theorem dX10_hasNumber_82 : decode cX10_hasNumber 82 = .ok (.iconst 0, 1) := by decide +kernel
theorem dX10_hasNumber_83 : decode cX10_hasNumber 83 = .ok (.ireturn, 1) := by decide +kernel
theorem pyX10_hasNumber : PY yX10_hasNumber 1 := ⟨by decide +kernel, by decide +kernel, by decide +kernel⟩
def fX10_hasNumber (Y : LY) (S : HS) (l0 : Option Nat) (l1 : Option Nat) : Option (Int32) :=
  (gI Y 4 404 l1 S).bind fun v1 =>
  if v1 = 0 then
    some 1
  else
  if v1 = 1 then
    some 1
  else
  if v1 = 2 then
    some 0
  else
  if v1 = 3 then
    some 0
  else
  if v1 = 4 then
    some 0
  else
  if v1 = 5 then
    some 0
  else
  if v1 = 6 then
    some 0
  else
  if v1 = 7 then
    some 0
  else
  if v1 = 8 then
    some 1
  else
  if v1 = 9 then
    some 0
  else
  if v1 = 10 then
    some 1
  else
  if v1 = 11 then
    some 1
  else
  if v1 = 12 then
    some 0
  else
  if v1 = 13 then
    some 1
  else
  if v1 = 14 then
    some 1
  else
  some 0
set_option maxRecDepth 100000 in
set_option maxHeartbeats 4000000 in
theorem mX10_hasNumber (l : Launch) {G : GG} {Y : LY} {S : HS} {l0 : Option Nat} {l1 : Option Nat} {res : Int32} (hf : fX10_hasNumber Y S l0 l1 = some res) : MM l yX10_hasNumber cX10_hasNumber 2 (some .boolean) 0 0 G Y S [va_rf l0, va_rf l1] S (some (.int res)) := by
  refine mm_of2 (plainFor_of_name (by decide +kernel)) (Nat.le_of_ble_eq_true rfl) (c1c (cr _) (c1c (cr _) c1n)) ?_
  intro p e R s m args below meth c X H locs ls hP hl
  have X : Cx p R s m args meth c RX10 cX10_hasNumber 2 0 0 (fun q => q ∈ Y.1) G (some .boolean) := X
  have hx := X.1.1
  have hb := X.1.2.1
  have hl : LV ls 2 [(0, va_rf l0), (1, va_rf l1)] := hl
  unfold fX10_hasNumber at hf
  refine rw_aload_n X dX10_hasNumber_0 rfl (hl.at 1 rfl) ?_
  obtain ⟨v1, e1, hf⟩ := ob hf
  refine rw_getI X dX10_hasNumber_1 fl10_37 e1 rfl hP ?_
  by_cases c4_0 : v1 = 0
  · have hf := ifp hf c4_0
    refine lv_tableIn (tgt := 80) hx hb dX10_hasNumber_4 (by rw [c4_0]; decide) (by rw [c4_0]; decide) (by rw [c4_0]; rfl) (by decide) ?_
    refine lv_iconst (v := 1) hx hb dX10_hasNumber_80 (by decide) ?_
    cases hf
    exact rw_zret X (by decide) dX10_hasNumber_81 hP
  have hf := ifn hf c4_0
  by_cases c4_1 : v1 = 1
  · have hf := ifp hf c4_1
    refine lv_tableIn (tgt := 80) hx hb dX10_hasNumber_4 (by rw [c4_1]; decide) (by rw [c4_1]; decide) (by rw [c4_1]; rfl) (by decide) ?_
    refine lv_iconst (v := 1) hx hb dX10_hasNumber_80 (by decide) ?_
    cases hf
    exact rw_zret X (by decide) dX10_hasNumber_81 hP
  have hf := ifn hf c4_1
  by_cases c4_2 : v1 = 2
  · have hf := ifp hf c4_2
    refine lv_tableIn (tgt := 82) hx hb dX10_hasNumber_4 (by rw [c4_2]; decide) (by rw [c4_2]; decide) (by rw [c4_2]; rfl) (by decide) ?_
    refine lv_iconst (v := 0) hx hb dX10_hasNumber_82 (by decide) ?_
    cases hf
    exact rw_zret X (by decide) dX10_hasNumber_83 hP
  have hf := ifn hf c4_2
  by_cases c4_3 : v1 = 3
  · have hf := ifp hf c4_3
    refine lv_tableIn (tgt := 82) hx hb dX10_hasNumber_4 (by rw [c4_3]; decide) (by rw [c4_3]; decide) (by rw [c4_3]; rfl) (by decide) ?_
    refine lv_iconst (v := 0) hx hb dX10_hasNumber_82 (by decide) ?_
    cases hf
    exact rw_zret X (by decide) dX10_hasNumber_83 hP
  have hf := ifn hf c4_3
  by_cases c4_4 : v1 = 4
  · have hf := ifp hf c4_4
    refine lv_tableIn (tgt := 82) hx hb dX10_hasNumber_4 (by rw [c4_4]; decide) (by rw [c4_4]; decide) (by rw [c4_4]; rfl) (by decide) ?_
    refine lv_iconst (v := 0) hx hb dX10_hasNumber_82 (by decide) ?_
    cases hf
    exact rw_zret X (by decide) dX10_hasNumber_83 hP
  have hf := ifn hf c4_4
  by_cases c4_5 : v1 = 5
  · have hf := ifp hf c4_5
    refine lv_tableIn (tgt := 82) hx hb dX10_hasNumber_4 (by rw [c4_5]; decide) (by rw [c4_5]; decide) (by rw [c4_5]; rfl) (by decide) ?_
    refine lv_iconst (v := 0) hx hb dX10_hasNumber_82 (by decide) ?_
    cases hf
    exact rw_zret X (by decide) dX10_hasNumber_83 hP
  have hf := ifn hf c4_5
  by_cases c4_6 : v1 = 6
  · have hf := ifp hf c4_6
    refine lv_tableIn (tgt := 82) hx hb dX10_hasNumber_4 (by rw [c4_6]; decide) (by rw [c4_6]; decide) (by rw [c4_6]; rfl) (by decide) ?_
    refine lv_iconst (v := 0) hx hb dX10_hasNumber_82 (by decide) ?_
    cases hf
    exact rw_zret X (by decide) dX10_hasNumber_83 hP
  have hf := ifn hf c4_6
  by_cases c4_7 : v1 = 7
  · have hf := ifp hf c4_7
    refine lv_tableIn (tgt := 82) hx hb dX10_hasNumber_4 (by rw [c4_7]; decide) (by rw [c4_7]; decide) (by rw [c4_7]; rfl) (by decide) ?_
    refine lv_iconst (v := 0) hx hb dX10_hasNumber_82 (by decide) ?_
    cases hf
    exact rw_zret X (by decide) dX10_hasNumber_83 hP
  have hf := ifn hf c4_7
  by_cases c4_8 : v1 = 8
  · have hf := ifp hf c4_8
    refine lv_tableIn (tgt := 80) hx hb dX10_hasNumber_4 (by rw [c4_8]; decide) (by rw [c4_8]; decide) (by rw [c4_8]; rfl) (by decide) ?_
    refine lv_iconst (v := 1) hx hb dX10_hasNumber_80 (by decide) ?_
    cases hf
    exact rw_zret X (by decide) dX10_hasNumber_81 hP
  have hf := ifn hf c4_8
  by_cases c4_9 : v1 = 9
  · have hf := ifp hf c4_9
    refine lv_tableIn (tgt := 82) hx hb dX10_hasNumber_4 (by rw [c4_9]; decide) (by rw [c4_9]; decide) (by rw [c4_9]; rfl) (by decide) ?_
    refine lv_iconst (v := 0) hx hb dX10_hasNumber_82 (by decide) ?_
    cases hf
    exact rw_zret X (by decide) dX10_hasNumber_83 hP
  have hf := ifn hf c4_9
  by_cases c4_10 : v1 = 10
  · have hf := ifp hf c4_10
    refine lv_tableIn (tgt := 80) hx hb dX10_hasNumber_4 (by rw [c4_10]; decide) (by rw [c4_10]; decide) (by rw [c4_10]; rfl) (by decide) ?_
    refine lv_iconst (v := 1) hx hb dX10_hasNumber_80 (by decide) ?_
    cases hf
    exact rw_zret X (by decide) dX10_hasNumber_81 hP
  have hf := ifn hf c4_10
  by_cases c4_11 : v1 = 11
  · have hf := ifp hf c4_11
    refine lv_tableIn (tgt := 80) hx hb dX10_hasNumber_4 (by rw [c4_11]; decide) (by rw [c4_11]; decide) (by rw [c4_11]; rfl) (by decide) ?_
    refine lv_iconst (v := 1) hx hb dX10_hasNumber_80 (by decide) ?_
    cases hf
    exact rw_zret X (by decide) dX10_hasNumber_81 hP
  have hf := ifn hf c4_11
  by_cases c4_12 : v1 = 12
  · have hf := ifp hf c4_12
    refine lv_tableIn (tgt := 82) hx hb dX10_hasNumber_4 (by rw [c4_12]; decide) (by rw [c4_12]; decide) (by rw [c4_12]; rfl) (by decide) ?_
    refine lv_iconst (v := 0) hx hb dX10_hasNumber_82 (by decide) ?_
    cases hf
    exact rw_zret X (by decide) dX10_hasNumber_83 hP
  have hf := ifn hf c4_12
  by_cases c4_13 : v1 = 13
  · have hf := ifp hf c4_13
    refine lv_tableIn (tgt := 80) hx hb dX10_hasNumber_4 (by rw [c4_13]; decide) (by rw [c4_13]; decide) (by rw [c4_13]; rfl) (by decide) ?_
    refine lv_iconst (v := 1) hx hb dX10_hasNumber_80 (by decide) ?_
    cases hf
    exact rw_zret X (by decide) dX10_hasNumber_81 hP
  have hf := ifn hf c4_13
  by_cases c4_14 : v1 = 14
  · have hf := ifp hf c4_14
    refine lv_tableIn (tgt := 80) hx hb dX10_hasNumber_4 (by rw [c4_14]; decide) (by rw [c4_14]; decide) (by rw [c4_14]; rfl) (by decide) ?_
    refine lv_iconst (v := 1) hx hb dX10_hasNumber_80 (by decide) ?_
    cases hf
    exact rw_zret X (by decide) dX10_hasNumber_81 hP
  have hf := ifn hf c4_14
  have t4_0 := tsw (k := 0) (v := 0) (by decide) c4_0
  have t4_1 := tsw (k := 1) (v := 1) (by decide) c4_1
  have t4_2 := tsw (k := 2) (v := 2) (by decide) c4_2
  have t4_3 := tsw (k := 3) (v := 3) (by decide) c4_3
  have t4_4 := tsw (k := 4) (v := 4) (by decide) c4_4
  have t4_5 := tsw (k := 5) (v := 5) (by decide) c4_5
  have t4_6 := tsw (k := 6) (v := 6) (by decide) c4_6
  have t4_7 := tsw (k := 7) (v := 7) (by decide) c4_7
  have t4_8 := tsw (k := 8) (v := 8) (by decide) c4_8
  have t4_9 := tsw (k := 9) (v := 9) (by decide) c4_9
  have t4_10 := tsw (k := 10) (v := 10) (by decide) c4_10
  have t4_11 := tsw (k := 11) (v := 11) (by decide) c4_11
  have t4_12 := tsw (k := 12) (v := 12) (by decide) c4_12
  have t4_13 := tsw (k := 13) (v := 13) (by decide) c4_13
  have t4_14 := tsw (k := 14) (v := 14) (by decide) c4_14
  refine lv_tableOut (tgt := 82) hx hb dX10_hasNumber_4 (by omega) (by decide) ?_
  refine lv_iconst (v := 0) hx hb dX10_hasNumber_82 (by decide) ?_
  cases hf
  exact rw_zret X (by decide) dX10_hasNumber_83 hP
theorem dX10_writeNumber_0 : decode cX10_writeNumber 0 = .ok (.iload_n 1, 1) := by decide +kernel
theorem dX10_writeNumber_1 : decode cX10_writeNumber 1 = .ok (.bipush 10, 2) := by decide +kernel
theorem dX10_writeNumber_3 : decode cX10_writeNumber 3 = .ok (.if_icmp .lt 18, 3) := by decide +kernel
theorem dX10_writeNumber_6 : decode cX10_writeNumber 6 = .ok (.aload_n 0, 1) := by decide +kernel
theorem dX10_writeNumber_7 : decode cX10_writeNumber 7 = .ok (.getfield 15, 3) := by decide +kernel
theorem dX10_writeNumber_10 : decode cX10_writeNumber 10 = .ok (.bipush 48, 2) := by decide +kernel
theorem dX10_writeNumber_12 : decode cX10_writeNumber 12 = .ok (.iload_n 1, 1) := by decide +kernel
theorem dX10_writeNumber_13 : decode cX10_writeNumber 13 = .ok (.bipush 10, 2) := by decide +kernel
theorem dX10_writeNumber_15 : decode cX10_writeNumber 15 = .ok (.idiv, 1) := by decide +kernel
theorem dX10_writeNumber_16 : decode cX10_writeNumber 16 = .ok (.iadd, 1) := by decide +kernel
theorem dX10_writeNumber_17 : decode cX10_writeNumber 17 = .ok (.i2c, 1) := by decide +kernel
theorem dX10_writeNumber_18 : decode cX10_writeNumber 18 = .ok (.invokevirtual 55, 3) := by decide +kernel
theorem dX10_writeNumber_21 : decode cX10_writeNumber 21 = .ok (.aload_n 0, 1) := by decide +kernel
theorem dX10_writeNumber_22 : decode cX10_writeNumber 22 = .ok (.getfield 15, 3) := by decide +kernel
theorem dX10_writeNumber_25 : decode cX10_writeNumber 25 = .ok (.bipush 48, 2) := by decide +kernel
theorem dX10_writeNumber_27 : decode cX10_writeNumber 27 = .ok (.iload_n 1, 1) := by decide +kernel
theorem dX10_writeNumber_28 : decode cX10_writeNumber 28 = .ok (.bipush 10, 2) := by decide +kernel
theorem dX10_writeNumber_30 : decode cX10_writeNumber 30 = .ok (.irem, 1) := by decide +kernel
theorem dX10_writeNumber_31 : decode cX10_writeNumber 31 = .ok (.iadd, 1) := by decide +kernel
theorem dX10_writeNumber_32 : decode cX10_writeNumber 32 = .ok (.i2c, 1) := by decide +kernel
theorem dX10_writeNumber_33 : decode cX10_writeNumber 33 = .ok (.invokevirtual 55, 3) := by decide +kernel
theorem dX10_writeNumber_36 : decode cX10_writeNumber 36 = .ok (.return_, 1) := by decide +kernel
theorem pyX10_writeNumber : PY yX10_writeNumber 1 := ⟨by decide +kernel, by decide +kernel, by decide +kernel⟩
def fX10_writeNumber_21 (Y : LY) (S : HS) (l0 : Option Nat) (l1 : Int32) : Option (HS) :=
  (gR Y 10 1001 l0 S).bind fun v22 =>
  (rcv Y 7 v22).bind fun _ =>
  (fX7_add Y S v22 (((48 + (l1 - l1 / 10 * 10)).toUInt32 % 65536).toInt32)).bind fun S33 =>
  some S33
set_option maxRecDepth 100000 in
set_option maxHeartbeats 4000000 in
theorem wX10_writeNumber_21 {p : Program} {l : Launch} {e : Env} {R : Room} {s : State} {m : MethodId} {args : Array Value} {below : List Frame} {meth : Method} {c : Code} {G : GG} {Y : LY} {res : HS} (X : Cx p R s m args meth c RX10 cX10_writeNumber 2 1 21 (fun q => q ∈ Y.1) G none) : ∀ (S : HS) (l0 : Option Nat) (l1 : Int32), fX10_writeNumber_21 Y S l0 l1 = some res → ∀ (H : Heap) (locs : List Loc) (ls : Array Slot), HP (fun q => q ∈ Y.1) G Y s S H locs → LV ls 2 [(0, va_rf l0), (1, .int l1)] → W p l e R s m args below meth c H locs 0 0 (MQ below (QI G Y res none) args s 0 0 (fun q => q ∈ Y.1)) (F0 m 21 ls []) := by
  have hx := X.1.1
  have hb := X.1.2.1
  intro S l0 l1 hf H locs ls hP hl
  unfold fX10_writeNumber_21 at hf
  refine rw_aload_n X dX10_writeNumber_21 rfl (hl.at 0 rfl) ?_
  obtain ⟨v22, e22, hf⟩ := ob hf
  refine rw_getR X dX10_writeNumber_22 fl10_15 e22 rfl hP ?_
  refine lv_bipush (v := 48) hx hb dX10_writeNumber_25 (by decide) ?_
  refine lv_iload_n hx hb dX10_writeNumber_27 rfl (hl.at 1 rfl) ?_
  refine lv_bipush (v := 10) hx hb dX10_writeNumber_28 (by decide) ?_
  refine lv_irem hx hb dX10_writeNumber_30 (by decide) ?_
  refine lv_iadd hx hb dX10_writeNumber_31 ?_
  refine lv_i2c hx hb dX10_writeNumber_32 rfl ?_
  obtain ⟨u33, r33, hf⟩ := ob hf
  obtain ⟨S33, e33, hf⟩ := ob hf
  refine rw_callVv (As := [.int (((48 + (l1 - l1 / 10 * 10)).toUInt32 % 65536).toInt32)]) X dX10_writeNumber_33 clX10_55 pyX7_add (mX7_add l e33) (by decide) r33 rfl hP rfl (catL c1n (Nat.le_of_ble_eq_true rfl)) hl.1.1 (fun H locs hP => ?_)
  cases hf
  exact rw_vret X dX10_writeNumber_36 hP
def fX10_writeNumber (Y : LY) (S : HS) (l0 : Option Nat) (l1 : Int32) : Option (HS) :=
  if l1 < 10 then
    fX10_writeNumber_21 Y S l0 l1
  else
    (gR Y 10 1001 l0 S).bind fun v7 =>
    (rcv Y 7 v7).bind fun _ =>
    (fX7_add Y S v7 (((48 + (l1 / 10)).toUInt32 % 65536).toInt32)).bind fun S18 =>
    fX10_writeNumber_21 Y S18 l0 l1
set_option maxRecDepth 100000 in
set_option maxHeartbeats 4000000 in
theorem mX10_writeNumber (l : Launch) {G : GG} {Y : LY} {S : HS} {l0 : Option Nat} {l1 : Int32} {res : HS} (hf : fX10_writeNumber Y S l0 l1 = some res) : MM l yX10_writeNumber cX10_writeNumber 2 none 1 21 G Y S [va_rf l0, .int l1] res none := by
  refine mm_of2 (plainFor_of_name (by decide +kernel)) (Nat.le_of_ble_eq_true rfl) (c1c (cr _) (c1c (ci _) c1n)) ?_
  intro p e R s m args below meth c X H locs ls hP hl
  have X : Cx p R s m args meth c RX10 cX10_writeNumber 2 1 21 (fun q => q ∈ Y.1) G none := X
  have hx := X.1.1
  have hb := X.1.2.1
  have hl : LV ls 2 [(0, va_rf l0), (1, .int l1)] := hl
  unfold fX10_writeNumber at hf
  refine lv_iload_n hx hb dX10_writeNumber_0 rfl (hl.at 1 rfl) ?_
  refine lv_bipush (v := 10) hx hb dX10_writeNumber_1 (by decide) ?_
  refine lv_icmp_lt hx hb (tgt := 21) dX10_writeNumber_3 (by decide) (fun c3 => ?_) (fun c3 => ?_)
  · have hf := ifp hf c3
    exact wX10_writeNumber_21 X S l0 l1 hf _ _ _ hP (hl.sub [0, 1] rfl)
  · have hf := ifn hf c3
    refine rw_aload_n X dX10_writeNumber_6 rfl (hl.at 0 rfl) ?_
    obtain ⟨v7, e7, hf⟩ := ob hf
    refine rw_getR X dX10_writeNumber_7 fl10_15 e7 rfl hP ?_
    refine lv_bipush (v := 48) hx hb dX10_writeNumber_10 (by decide) ?_
    refine lv_iload_n hx hb dX10_writeNumber_12 rfl (hl.at 1 rfl) ?_
    refine lv_bipush (v := 10) hx hb dX10_writeNumber_13 (by decide) ?_
    refine lv_idiv hx hb dX10_writeNumber_15 (by decide) ?_
    refine lv_iadd hx hb dX10_writeNumber_16 ?_
    refine lv_i2c hx hb dX10_writeNumber_17 rfl ?_
    obtain ⟨u18, r18, hf⟩ := ob hf
    obtain ⟨S18, e18, hf⟩ := ob hf
    refine rw_callVv (As := [.int (((48 + (l1 / 10)).toUInt32 % 65536).toInt32)]) X dX10_writeNumber_18 clX10_55 pyX7_add (mX7_add l e18) (by decide) r18 rfl hP rfl (catL c1n (Nat.le_of_ble_eq_true rfl)) hl.1.1 (fun H locs hP => ?_)
    exact wX10_writeNumber_21 X S18 l0 l1 hf _ _ _ hP (hl.sub [0, 1] rfl)
theorem dX10_writeClause_0 : decode cX10_writeClause 0 = .ok (.aload_n 0, 1) := by decide +kernel
theorem dX10_writeClause_1 : decode cX10_writeClause 1 = .ok (.aload_n 1, 1) := by decide +kernel
theorem dX10_writeClause_2 : decode cX10_writeClause 2 = .ok (.getfield 101, 3) := by decide +kernel
theorem dX10_writeClause_5 : decode cX10_writeClause 5 = .ok (.invokevirtual 66, 3) := by decide +kernel
theorem dX10_writeClause_8 : decode cX10_writeClause 8 = .ok (.aload_n 0, 1) := by decide +kernel
theorem dX10_writeClause_9 : decode cX10_writeClause 9 = .ok (.getfield 15, 3) := by decide +kernel
theorem dX10_writeClause_12 : decode cX10_writeClause 12 = .ok (.aload_n 1, 1) := by decide +kernel
theorem dX10_writeClause_13 : decode cX10_writeClause 13 = .ok (.getfield 104, 3) := by decide +kernel
theorem dX10_writeClause_16 : decode cX10_writeClause 16 = .ok (.invokevirtual 55, 3) := by decide +kernel
theorem dX10_writeClause_19 : decode cX10_writeClause 19 = .ok (.aload_n 0, 1) := by decide +kernel
theorem dX10_writeClause_20 : decode cX10_writeClause 20 = .ok (.aload_n 1, 1) := by decide +kernel
theorem dX10_writeClause_21 : decode cX10_writeClause 21 = .ok (.getfield 108, 3) := by decide +kernel
theorem dX10_writeClause_24 : decode cX10_writeClause 24 = .ok (.invokevirtual 66, 3) := by decide +kernel
theorem dX10_writeClause_27 : decode cX10_writeClause 27 = .ok (.return_, 1) := by decide +kernel
theorem pyX10_writeClause : PY yX10_writeClause 1 := ⟨by decide +kernel, by decide +kernel, by decide +kernel⟩
def fX10_writeClause (Y : LY) (S : HS) (l0 : Option Nat) (l1 : Option Nat) : Option (HS) :=
  (gI Y 1 101 l1 S).bind fun v2 =>
  (rcv Y 10 l0).bind fun _ =>
  (fX10_writeNumber Y S l0 v2).bind fun S5 =>
  (gR Y 10 1001 l0 S5).bind fun v9 =>
  (gI Y 1 102 l1 S5).bind fun v13 =>
  (rcv Y 7 v9).bind fun _ =>
  (fX7_add Y S5 v9 v13).bind fun S16 =>
  (gI Y 1 103 l1 S16).bind fun v21 =>
  (rcv Y 10 l0).bind fun _ =>
  (fX10_writeNumber Y S16 l0 v21).bind fun S24 =>
  some S24
set_option maxRecDepth 100000 in
set_option maxHeartbeats 4000000 in
theorem mX10_writeClause (l : Launch) {G : GG} {Y : LY} {S : HS} {l0 : Option Nat} {l1 : Option Nat} {res : HS} (hf : fX10_writeClause Y S l0 l1 = some res) : MM l yX10_writeClause cX10_writeClause 2 none 2 42 G Y S [va_rf l0, va_rf l1] res none := by
  refine mm_of2 (plainFor_of_name (by decide +kernel)) (Nat.le_of_ble_eq_true rfl) (c1c (cr _) (c1c (cr _) c1n)) ?_
  intro p e R s m args below meth c X H locs ls hP hl
  have X : Cx p R s m args meth c RX10 cX10_writeClause 2 2 42 (fun q => q ∈ Y.1) G none := X
  have hx := X.1.1
  have hb := X.1.2.1
  have hl : LV ls 2 [(0, va_rf l0), (1, va_rf l1)] := hl
  unfold fX10_writeClause at hf
  refine rw_aload_n X dX10_writeClause_0 rfl (hl.at 0 rfl) ?_
  refine rw_aload_n X dX10_writeClause_1 rfl (hl.at 1 rfl) ?_
  obtain ⟨v2, e2, hf⟩ := ob hf
  refine rw_getI X dX10_writeClause_2 fl10_101 e2 rfl hP ?_
  obtain ⟨u5, r5, hf⟩ := ob hf
  obtain ⟨S5, e5, hf⟩ := ob hf
  refine rw_callVv (As := [.int v2]) X dX10_writeClause_5 clX10_66 pyX10_writeNumber (mX10_writeNumber l e5) (by decide) r5 rfl hP rfl (catL c1n (Nat.le_of_ble_eq_true rfl)) hl.1.1 (fun H locs hP => ?_)
  refine rw_aload_n X dX10_writeClause_8 rfl (hl.at 0 rfl) ?_
  obtain ⟨v9, e9, hf⟩ := ob hf
  refine rw_getR X dX10_writeClause_9 fl10_15 e9 rfl hP ?_
  refine rw_aload_n X dX10_writeClause_12 rfl (hl.at 1 rfl) ?_
  obtain ⟨v13, e13, hf⟩ := ob hf
  refine rw_getI X dX10_writeClause_13 fl10_104 e13 rfl hP ?_
  obtain ⟨u16, r16, hf⟩ := ob hf
  obtain ⟨S16, e16, hf⟩ := ob hf
  refine rw_callVv (As := [.int v13]) X dX10_writeClause_16 clX10_55 pyX7_add (mX7_add l e16) (by decide) r16 rfl hP rfl (catL c1n (Nat.le_of_ble_eq_true rfl)) hl.1.1 (fun H locs hP => ?_)
  refine rw_aload_n X dX10_writeClause_19 rfl (hl.at 0 rfl) ?_
  refine rw_aload_n X dX10_writeClause_20 rfl (hl.at 1 rfl) ?_
  obtain ⟨v21, e21, hf⟩ := ob hf
  refine rw_getI X dX10_writeClause_21 fl10_108 e21 rfl hP ?_
  obtain ⟨u24, r24, hf⟩ := ob hf
  obtain ⟨S24, e24, hf⟩ := ob hf
  refine rw_callVv (As := [.int v21]) X dX10_writeClause_24 clX10_66 pyX10_writeNumber (mX10_writeNumber l e24) (by decide) r24 rfl hP rfl (catL c1n (Nat.le_of_ble_eq_true rfl)) hl.1.1 (fun H locs hP => ?_)
  cases hf
  exact rw_vret X dX10_writeClause_27 hP
theorem dX10_writeHead_0 : decode cX10_writeHead 0 = .ok (.aload_n 1, 1) := by decide +kernel
theorem dX10_writeHead_1 : decode cX10_writeHead 1 = .ok (.getfield 37, 3) := by decide +kernel
theorem dX10_writeHead_4 : decode cX10_writeHead 4 = .ok (.ifCond .lt 31, 3) := by decide +kernel
theorem dX10_writeHead_7 : decode cX10_writeHead 7 = .ok (.aload_n 1, 1) := by decide +kernel
theorem dX10_writeHead_8 : decode cX10_writeHead 8 = .ok (.getfield 37, 3) := by decide +kernel
theorem dX10_writeHead_11 : decode cX10_writeHead 11 = .ok (.ldc 43, 2) := by decide +kernel
theorem dX10_writeHead_13 : decode cX10_writeHead 13 = .ok (.invokevirtual 45, 3) := by decide +kernel
theorem dX10_writeHead_16 : decode cX10_writeHead 16 = .ok (.if_icmp .ge 19, 3) := by decide +kernel
theorem dX10_writeHead_19 : decode cX10_writeHead 19 = .ok (.aload_n 0, 1) := by decide +kernel
theorem dX10_writeHead_20 : decode cX10_writeHead 20 = .ok (.getfield 15, 3) := by decide +kernel
theorem dX10_writeHead_23 : decode cX10_writeHead 23 = .ok (.ldc 43, 2) := by decide +kernel
theorem dX10_writeHead_25 : decode cX10_writeHead 25 = .ok (.aload_n 1, 1) := by decide +kernel
theorem dX10_writeHead_26 : decode cX10_writeHead 26 = .ok (.getfield 37, 3) := by decide +kernel
theorem dX10_writeHead_29 : decode cX10_writeHead 29 = .ok (.invokevirtual 51, 3) := by decide +kernel
theorem dX10_writeHead_32 : decode cX10_writeHead 32 = .ok (.invokevirtual 55, 3) := by decide +kernel
theorem dX10_writeHead_35 : decode cX10_writeHead 35 = .ok (.aload_n 0, 1) := by decide +kernel
theorem dX10_writeHead_36 : decode cX10_writeHead 36 = .ok (.aload_n 1, 1) := by decide +kernel
theorem dX10_writeHead_37 : decode cX10_writeHead 37 = .ok (.invokevirtual 59, 3) := by decide +kernel
theorem dX10_writeHead_40 : decode cX10_writeHead 40 = .ok (.ifCond .eq 11, 3) := by decide +kernel
theorem dX10_writeHead_43 : decode cX10_writeHead 43 = .ok (.aload_n 0, 1) := by decide +kernel
theorem dX10_writeHead_44 : decode cX10_writeHead 44 = .ok (.aload_n 1, 1) := by decide +kernel
theorem dX10_writeHead_45 : decode cX10_writeHead 45 = .ok (.getfield 63, 3) := by decide +kernel
theorem dX10_writeHead_48 : decode cX10_writeHead 48 = .ok (.invokevirtual 66, 3) := by decide +kernel
theorem dX10_writeHead_51 : decode cX10_writeHead 51 = .ok (.aload_n 1, 1) := by decide +kernel
theorem dX10_writeHead_52 : decode cX10_writeHead 52 = .ok (.getfield 70, 3) := by decide +kernel
theorem dX10_writeHead_55 : decode cX10_writeHead 55 = .ok (.getfield 74, 3) := by decide +kernel
theorem dX10_writeHead_58 : decode cX10_writeHead 58 = .ok (.ifCond .eq 11, 3) := by decide +kernel
theorem dX10_writeHead_61 : decode cX10_writeHead 61 = .ok (.aload_n 0, 1) := by decide +kernel
theorem dX10_writeHead_62 : decode cX10_writeHead 62 = .ok (.aload_n 1, 1) := by decide +kernel
theorem dX10_writeHead_63 : decode cX10_writeHead 63 = .ok (.getfield 70, 3) := by decide +kernel
theorem dX10_writeHead_66 : decode cX10_writeHead 66 = .ok (.invokevirtual 80, 3) := by decide +kernel
theorem dX10_writeHead_69 : decode cX10_writeHead 69 = .ok (.aload_n 1, 1) := by decide +kernel
theorem dX10_writeHead_70 : decode cX10_writeHead 70 = .ok (.getfield 84, 3) := by decide +kernel
theorem dX10_writeHead_73 : decode cX10_writeHead 73 = .ok (.getfield 74, 3) := by decide +kernel
theorem dX10_writeHead_76 : decode cX10_writeHead 76 = .ok (.ifCond .eq 20, 3) := by decide +kernel
theorem dX10_writeHead_79 : decode cX10_writeHead 79 = .ok (.aload_n 0, 1) := by decide +kernel
theorem dX10_writeHead_80 : decode cX10_writeHead 80 = .ok (.getfield 15, 3) := by decide +kernel
theorem dX10_writeHead_83 : decode cX10_writeHead 83 = .ok (.bipush 126, 2) := by decide +kernel
theorem dX10_writeHead_85 : decode cX10_writeHead 85 = .ok (.invokevirtual 55, 3) := by decide +kernel
theorem dX10_writeHead_88 : decode cX10_writeHead 88 = .ok (.aload_n 0, 1) := by decide +kernel
theorem dX10_writeHead_89 : decode cX10_writeHead 89 = .ok (.aload_n 1, 1) := by decide +kernel
theorem dX10_writeHead_90 : decode cX10_writeHead 90 = .ok (.getfield 84, 3) := by decide +kernel
theorem dX10_writeHead_93 : decode cX10_writeHead 93 = .ok (.invokevirtual 80, 3) := by decide +kernel
theorem dX10_writeHead_96 : decode cX10_writeHead 96 = .ok (.aload_n 1, 1) := by decide +kernel
theorem dX10_writeHead_97 : decode cX10_writeHead 97 = .ok (.invokevirtual 87, 3) := by decide +kernel
theorem dX10_writeHead_100 : decode cX10_writeHead 100 = .ok (.ifCond .eq 12, 3) := by decide +kernel
theorem dX10_writeHead_103 : decode cX10_writeHead 103 = .ok (.aload_n 0, 1) := by decide +kernel
theorem dX10_writeHead_104 : decode cX10_writeHead 104 = .ok (.getfield 15, 3) := by decide +kernel
theorem dX10_writeHead_107 : decode cX10_writeHead 107 = .ok (.bipush 40, 2) := by decide +kernel
theorem dX10_writeHead_109 : decode cX10_writeHead 109 = .ok (.invokevirtual 55, 3) := by decide +kernel
theorem dX10_writeHead_112 : decode cX10_writeHead 112 = .ok (.return_, 1) := by decide +kernel
theorem pyX10_writeHead : PY yX10_writeHead 1 := ⟨by decide +kernel, by decide +kernel, by decide +kernel⟩
def fX10_writeHead_96 (Y : LY) (S : HS) (l0 : Option Nat) (l1 : Option Nat) : Option (HS) :=
  (rcv Y 4 l1).bind fun _ =>
  (fX4_hasList Y S l1 ).bind fun v97 =>
  if v97 = 0 then
    some S
  else
    (gR Y 10 1001 l0 S).bind fun v104 =>
    (rcv Y 7 v104).bind fun _ =>
    (fX7_add Y S v104 40).bind fun S109 =>
    some S109
set_option maxRecDepth 100000 in
set_option maxHeartbeats 4000000 in
theorem wX10_writeHead_96 {p : Program} {l : Launch} {e : Env} {R : Room} {s : State} {m : MethodId} {args : Array Value} {below : List Frame} {meth : Method} {c : Code} {G : GG} {Y : LY} {res : HS} (X : Cx p R s m args meth c RX10 cX10_writeHead 2 8 400 (fun q => q ∈ Y.1) G none) : ∀ (S : HS) (l0 : Option Nat) (l1 : Option Nat), fX10_writeHead_96 Y S l0 l1 = some res → ∀ (H : Heap) (locs : List Loc) (ls : Array Slot), HP (fun q => q ∈ Y.1) G Y s S H locs → LV ls 2 [(0, va_rf l0), (1, va_rf l1)] → W p l e R s m args below meth c H locs 0 0 (MQ below (QI G Y res none) args s 0 0 (fun q => q ∈ Y.1)) (F0 m 96 ls []) := by
  have hx := X.1.1
  have hb := X.1.2.1
  intro S l0 l1 hf H locs ls hP hl
  unfold fX10_writeHead_96 at hf
  refine rw_aload_n X dX10_writeHead_96 rfl (hl.at 1 rfl) ?_
  obtain ⟨u97, r97, hf⟩ := ob hf
  obtain ⟨v97, e97, hf⟩ := ob hf
  refine rw_callVi (As := []) X dX10_writeHead_97 clX10_87 pyX4_hasList (mX4_hasList l e97) (by decide) r97 rfl hP rfl (catL c1n (Nat.le_of_ble_eq_true rfl)) hl.1.1 (fun H locs hP => ?_)
  refine lv_if_eq hx hb (tgt := 112) dX10_writeHead_100 (by decide) (fun c100 => ?_) (fun c100 => ?_)
  · have hf := ifp hf c100
    cases hf
    exact rw_vret X dX10_writeHead_112 hP
  · have hf := ifn hf c100
    refine rw_aload_n X dX10_writeHead_103 rfl (hl.at 0 rfl) ?_
    obtain ⟨v104, e104, hf⟩ := ob hf
    refine rw_getR X dX10_writeHead_104 fl10_15 e104 rfl hP ?_
    refine lv_bipush (v := 40) hx hb dX10_writeHead_107 (by decide) ?_
    obtain ⟨u109, r109, hf⟩ := ob hf
    obtain ⟨S109, e109, hf⟩ := ob hf
    refine rw_callVv (As := [.int 40]) X dX10_writeHead_109 clX10_55 pyX7_add (mX7_add l e109) (by decide) r109 rfl hP rfl (catL c1n (Nat.le_of_ble_eq_true rfl)) hl.1.1 (fun H locs hP => ?_)
    cases hf
    exact rw_vret X dX10_writeHead_112 hP
def fX10_writeHead_69 (Y : LY) (S : HS) (l0 : Option Nat) (l1 : Option Nat) : Option (HS) :=
  (gR Y 4 402 l1 S).bind fun v70 =>
  (gI Y 1 100 v70 S).bind fun v73 =>
  if v73 = 0 then
    fX10_writeHead_96 Y S l0 l1
  else
    (gR Y 10 1001 l0 S).bind fun v80 =>
    (rcv Y 7 v80).bind fun _ =>
    (fX7_add Y S v80 126).bind fun S85 =>
    (gR Y 4 402 l1 S85).bind fun v90 =>
    (rcv Y 10 l0).bind fun _ =>
    (fX10_writeClause Y S85 l0 v90).bind fun S93 =>
    fX10_writeHead_96 Y S93 l0 l1
set_option maxRecDepth 100000 in
set_option maxHeartbeats 4000000 in
theorem wX10_writeHead_69 {p : Program} {l : Launch} {e : Env} {R : Room} {s : State} {m : MethodId} {args : Array Value} {below : List Frame} {meth : Method} {c : Code} {G : GG} {Y : LY} {res : HS} (X : Cx p R s m args meth c RX10 cX10_writeHead 2 8 400 (fun q => q ∈ Y.1) G none) : ∀ (S : HS) (l0 : Option Nat) (l1 : Option Nat), fX10_writeHead_69 Y S l0 l1 = some res → ∀ (H : Heap) (locs : List Loc) (ls : Array Slot), HP (fun q => q ∈ Y.1) G Y s S H locs → LV ls 2 [(0, va_rf l0), (1, va_rf l1)] → W p l e R s m args below meth c H locs 0 0 (MQ below (QI G Y res none) args s 0 0 (fun q => q ∈ Y.1)) (F0 m 69 ls []) := by
  have hx := X.1.1
  have hb := X.1.2.1
  intro S l0 l1 hf H locs ls hP hl
  unfold fX10_writeHead_69 at hf
  refine rw_aload_n X dX10_writeHead_69 rfl (hl.at 1 rfl) ?_
  obtain ⟨v70, e70, hf⟩ := ob hf
  refine rw_getR X dX10_writeHead_70 fl10_84 e70 rfl hP ?_
  obtain ⟨v73, e73, hf⟩ := ob hf
  refine rw_getI X dX10_writeHead_73 fl10_74 e73 rfl hP ?_
  refine lv_if_eq hx hb (tgt := 96) dX10_writeHead_76 (by decide) (fun c76 => ?_) (fun c76 => ?_)
  · have hf := ifp hf c76
    exact wX10_writeHead_96 X S l0 l1 hf _ _ _ hP (hl.sub [0, 1] rfl)
  · have hf := ifn hf c76
    refine rw_aload_n X dX10_writeHead_79 rfl (hl.at 0 rfl) ?_
    obtain ⟨v80, e80, hf⟩ := ob hf
    refine rw_getR X dX10_writeHead_80 fl10_15 e80 rfl hP ?_
    refine lv_bipush (v := 126) hx hb dX10_writeHead_83 (by decide) ?_
    obtain ⟨u85, r85, hf⟩ := ob hf
    obtain ⟨S85, e85, hf⟩ := ob hf
    refine rw_callVv (As := [.int 126]) X dX10_writeHead_85 clX10_55 pyX7_add (mX7_add l e85) (by decide) r85 rfl hP rfl (catL c1n (Nat.le_of_ble_eq_true rfl)) hl.1.1 (fun H locs hP => ?_)
    refine rw_aload_n X dX10_writeHead_88 rfl (hl.at 0 rfl) ?_
    refine rw_aload_n X dX10_writeHead_89 rfl (hl.at 1 rfl) ?_
    obtain ⟨v90, e90, hf⟩ := ob hf
    refine rw_getR X dX10_writeHead_90 fl10_84 e90 rfl hP ?_
    obtain ⟨u93, r93, hf⟩ := ob hf
    obtain ⟨S93, e93, hf⟩ := ob hf
    refine rw_callVv (As := [va_rf v90]) X dX10_writeHead_93 clX10_80 pyX10_writeClause (mX10_writeClause l e93) (by decide) r93 rfl hP rfl (catL c1n (Nat.le_of_ble_eq_true rfl)) hl.1.1 (fun H locs hP => ?_)
    exact wX10_writeHead_96 X S93 l0 l1 hf _ _ _ hP (hl.sub [0, 1] rfl)
def fX10_writeHead_51 (Y : LY) (S : HS) (l0 : Option Nat) (l1 : Option Nat) : Option (HS) :=
  (gR Y 4 401 l1 S).bind fun v52 =>
  (gI Y 1 100 v52 S).bind fun v55 =>
  if v55 = 0 then
    fX10_writeHead_69 Y S l0 l1
  else
    (gR Y 4 401 l1 S).bind fun v63 =>
    (rcv Y 10 l0).bind fun _ =>
    (fX10_writeClause Y S l0 v63).bind fun S66 =>
    fX10_writeHead_69 Y S66 l0 l1
set_option maxRecDepth 100000 in
set_option maxHeartbeats 4000000 in
theorem wX10_writeHead_51 {p : Program} {l : Launch} {e : Env} {R : Room} {s : State} {m : MethodId} {args : Array Value} {below : List Frame} {meth : Method} {c : Code} {G : GG} {Y : LY} {res : HS} (X : Cx p R s m args meth c RX10 cX10_writeHead 2 8 400 (fun q => q ∈ Y.1) G none) : ∀ (S : HS) (l0 : Option Nat) (l1 : Option Nat), fX10_writeHead_51 Y S l0 l1 = some res → ∀ (H : Heap) (locs : List Loc) (ls : Array Slot), HP (fun q => q ∈ Y.1) G Y s S H locs → LV ls 2 [(0, va_rf l0), (1, va_rf l1)] → W p l e R s m args below meth c H locs 0 0 (MQ below (QI G Y res none) args s 0 0 (fun q => q ∈ Y.1)) (F0 m 51 ls []) := by
  have hx := X.1.1
  have hb := X.1.2.1
  intro S l0 l1 hf H locs ls hP hl
  unfold fX10_writeHead_51 at hf
  refine rw_aload_n X dX10_writeHead_51 rfl (hl.at 1 rfl) ?_
  obtain ⟨v52, e52, hf⟩ := ob hf
  refine rw_getR X dX10_writeHead_52 fl10_70 e52 rfl hP ?_
  obtain ⟨v55, e55, hf⟩ := ob hf
  refine rw_getI X dX10_writeHead_55 fl10_74 e55 rfl hP ?_
  refine lv_if_eq hx hb (tgt := 69) dX10_writeHead_58 (by decide) (fun c58 => ?_) (fun c58 => ?_)
  · have hf := ifp hf c58
    exact wX10_writeHead_69 X S l0 l1 hf _ _ _ hP (hl.sub [0, 1] rfl)
  · have hf := ifn hf c58
    refine rw_aload_n X dX10_writeHead_61 rfl (hl.at 0 rfl) ?_
    refine rw_aload_n X dX10_writeHead_62 rfl (hl.at 1 rfl) ?_
    obtain ⟨v63, e63, hf⟩ := ob hf
    refine rw_getR X dX10_writeHead_63 fl10_70 e63 rfl hP ?_
    obtain ⟨u66, r66, hf⟩ := ob hf
    obtain ⟨S66, e66, hf⟩ := ob hf
    refine rw_callVv (As := [va_rf v63]) X dX10_writeHead_66 clX10_80 pyX10_writeClause (mX10_writeClause l e66) (by decide) r66 rfl hP rfl (catL c1n (Nat.le_of_ble_eq_true rfl)) hl.1.1 (fun H locs hP => ?_)
    exact wX10_writeHead_69 X S66 l0 l1 hf _ _ _ hP (hl.sub [0, 1] rfl)
def fX10_writeHead_35 (Y : LY) (S : HS) (l0 : Option Nat) (l1 : Option Nat) : Option (HS) :=
  (rcv Y 10 l0).bind fun _ =>
  (fX10_hasNumber Y S l0 l1).bind fun v37 =>
  if v37 = 0 then
    fX10_writeHead_51 Y S l0 l1
  else
    (gI Y 4 405 l1 S).bind fun v45 =>
    (rcv Y 10 l0).bind fun _ =>
    (fX10_writeNumber Y S l0 v45).bind fun S48 =>
    fX10_writeHead_51 Y S48 l0 l1
set_option maxRecDepth 100000 in
set_option maxHeartbeats 4000000 in
theorem wX10_writeHead_35 {p : Program} {l : Launch} {e : Env} {R : Room} {s : State} {m : MethodId} {args : Array Value} {below : List Frame} {meth : Method} {c : Code} {G : GG} {Y : LY} {res : HS} (X : Cx p R s m args meth c RX10 cX10_writeHead 2 8 400 (fun q => q ∈ Y.1) G none) : ∀ (S : HS) (l0 : Option Nat) (l1 : Option Nat), fX10_writeHead_35 Y S l0 l1 = some res → ∀ (H : Heap) (locs : List Loc) (ls : Array Slot), HP (fun q => q ∈ Y.1) G Y s S H locs → LV ls 2 [(0, va_rf l0), (1, va_rf l1)] → W p l e R s m args below meth c H locs 0 0 (MQ below (QI G Y res none) args s 0 0 (fun q => q ∈ Y.1)) (F0 m 35 ls []) := by
  have hx := X.1.1
  have hb := X.1.2.1
  intro S l0 l1 hf H locs ls hP hl
  unfold fX10_writeHead_35 at hf
  refine rw_aload_n X dX10_writeHead_35 rfl (hl.at 0 rfl) ?_
  refine rw_aload_n X dX10_writeHead_36 rfl (hl.at 1 rfl) ?_
  obtain ⟨u37, r37, hf⟩ := ob hf
  obtain ⟨v37, e37, hf⟩ := ob hf
  refine rw_callVi (As := [va_rf l1]) X dX10_writeHead_37 clX10_59 pyX10_hasNumber (mX10_hasNumber l e37) (by decide) r37 rfl hP rfl (catL c1n (Nat.le_of_ble_eq_true rfl)) hl.1.1 (fun H locs hP => ?_)
  refine lv_if_eq hx hb (tgt := 51) dX10_writeHead_40 (by decide) (fun c40 => ?_) (fun c40 => ?_)
  · have hf := ifp hf c40
    exact wX10_writeHead_51 X S l0 l1 hf _ _ _ hP (hl.sub [0, 1] rfl)
  · have hf := ifn hf c40
    refine rw_aload_n X dX10_writeHead_43 rfl (hl.at 0 rfl) ?_
    refine rw_aload_n X dX10_writeHead_44 rfl (hl.at 1 rfl) ?_
    obtain ⟨v45, e45, hf⟩ := ob hf
    refine rw_getI X dX10_writeHead_45 fl10_63 e45 rfl hP ?_
    obtain ⟨u48, r48, hf⟩ := ob hf
    obtain ⟨S48, e48, hf⟩ := ob hf
    refine rw_callVv (As := [.int v45]) X dX10_writeHead_48 clX10_66 pyX10_writeNumber (mX10_writeNumber l e48) (by decide) r48 rfl hP rfl (catL c1n (Nat.le_of_ble_eq_true rfl)) hl.1.1 (fun H locs hP => ?_)
    exact wX10_writeHead_51 X S48 l0 l1 hf _ _ _ hP (hl.sub [0, 1] rfl)
def fX10_writeHead (Y : LY) (S : HS) (l0 : Option Nat) (l1 : Option Nat) : Option (HS) :=
  (gI Y 4 404 l1 S).bind fun v1 =>
  if v1 < 0 then
    fX10_writeHead_35 Y S l0 l1
  else
    (gI Y 4 404 l1 S).bind fun v8 =>
    if (sLen 0) ≤ v8 then
      fX10_writeHead_35 Y S l0 l1
    else
      (gR Y 10 1001 l0 S).bind fun v20 =>
      (gI Y 4 404 l1 S).bind fun v26 =>
      (sCh 0 v26).bind fun v29 =>
      (rcv Y 7 v20).bind fun _ =>
      (fX7_add Y S v20 v29).bind fun S32 =>
      fX10_writeHead_35 Y S32 l0 l1
set_option maxRecDepth 100000 in
set_option maxHeartbeats 4000000 in
theorem mX10_writeHead (l : Launch) {G : GG} {Y : LY} {S : HS} {l0 : Option Nat} {l1 : Option Nat} {res : HS} (hf : fX10_writeHead Y S l0 l1 = some res) : MM l yX10_writeHead cX10_writeHead 2 none 8 400 G Y S [va_rf l0, va_rf l1] res none := by
  refine mm_of2 (plainFor_of_name (by decide +kernel)) (Nat.le_of_ble_eq_true rfl) (c1c (cr _) (c1c (cr _) c1n)) ?_
  intro p e R s m args below meth c X H locs ls hP hl
  have X : Cx p R s m args meth c RX10 cX10_writeHead 2 8 400 (fun q => q ∈ Y.1) G none := X
  have hx := X.1.1
  have hb := X.1.2.1
  have hl : LV ls 2 [(0, va_rf l0), (1, va_rf l1)] := hl
  unfold fX10_writeHead at hf
  refine rw_aload_n X dX10_writeHead_0 rfl (hl.at 1 rfl) ?_
  obtain ⟨v1, e1, hf⟩ := ob hf
  refine rw_getI X dX10_writeHead_1 fl10_37 e1 rfl hP ?_
  refine lv_if_lt hx hb (tgt := 35) dX10_writeHead_4 (by decide) (fun c4 => ?_) (fun c4 => ?_)
  · have hf := ifp hf c4
    exact wX10_writeHead_35 X S l0 l1 hf _ _ _ hP (hl.sub [0, 1] rfl)
  · have hf := ifn hf c4
    refine rw_aload_n X dX10_writeHead_7 rfl (hl.at 1 rfl) ?_
    obtain ⟨v8, e8, hf⟩ := ob hf
    refine rw_getI X dX10_writeHead_8 fl10_37 e8 rfl hP ?_
    refine va_ldcS hx hb X.1.2.2.2.1 X.2.2.1.2.2.2.2.2.1 dX10_writeHead_11 ?_
    refine rs_len X clX10_45 (i := 0) (by first | decide | assumption) (by decide) (catL (c1c (ci _) c1n) (Nat.le_of_ble_eq_true rfl)) hl.1.1 dX10_writeHead_13 hP (fun H locs hP => ?_)
    refine lv_icmp_ge hx hb (tgt := 35) dX10_writeHead_16 (by decide) (fun c16 => ?_) (fun c16 => ?_)
    · have hf := ifp hf c16
      exact wX10_writeHead_35 X S l0 l1 hf _ _ _ hP (hl.sub [0, 1] rfl)
    · have hf := ifn hf c16
      refine rw_aload_n X dX10_writeHead_19 rfl (hl.at 0 rfl) ?_
      obtain ⟨v20, e20, hf⟩ := ob hf
      refine rw_getR X dX10_writeHead_20 fl10_15 e20 rfl hP ?_
      refine va_ldcS hx hb X.1.2.2.2.1 X.2.2.1.2.2.2.2.2.1 dX10_writeHead_23 ?_
      refine rw_aload_n X dX10_writeHead_25 rfl (hl.at 1 rfl) ?_
      obtain ⟨v26, e26, hf⟩ := ob hf
      refine rw_getI X dX10_writeHead_26 fl10_37 e26 rfl hP ?_
      obtain ⟨v29, e29, hf⟩ := ob hf
      refine rs_ch X clX10_51 e29 (by decide) (catL (c1c (cr _) c1n) (Nat.le_of_ble_eq_true rfl)) hl.1.1 dX10_writeHead_29 hP (fun H locs hP => ?_)
      obtain ⟨u32, r32, hf⟩ := ob hf
      obtain ⟨S32, e32, hf⟩ := ob hf
      refine rw_callVv (As := [.int v29]) X dX10_writeHead_32 clX10_55 pyX7_add (mX7_add l e32) (by decide) r32 rfl hP rfl (catL c1n (Nat.le_of_ble_eq_true rfl)) hl.1.1 (fun H locs hP => ?_)
      exact wX10_writeHead_35 X S32 l0 l1 hf _ _ _ hP (hl.sub [0, 1] rfl)
theorem dX10_writeBehind_0 : decode cX10_writeBehind 0 = .ok (.aload_n 1, 1) := by decide +kernel
theorem dX10_writeBehind_1 : decode cX10_writeBehind 1 = .ok (.getfield 91, 3) := by decide +kernel
theorem dX10_writeBehind_4 : decode cX10_writeBehind 4 = .ok (.ifnull 4, 3) := by decide +kernel
theorem dX10_writeBehind_7 : decode cX10_writeBehind 7 = .ok (.return_, 1) := by decide +kernel
theorem dX10_writeBehind_8 : decode cX10_writeBehind 8 = .ok (.aload_n 1, 1) := by decide +kernel
theorem dX10_writeBehind_9 : decode cX10_writeBehind 9 = .ok (.astore_n 2, 1) := by decide +kernel
theorem dX10_writeBehind_10 : decode cX10_writeBehind 10 = .ok (.aload_n 2, 1) := by decide +kernel
theorem dX10_writeBehind_11 : decode cX10_writeBehind 11 = .ok (.getfield 95, 3) := by decide +kernel
theorem dX10_writeBehind_14 : decode cX10_writeBehind 14 = .ok (.ifnull 47, 3) := by decide +kernel
theorem dX10_writeBehind_17 : decode cX10_writeBehind 17 = .ok (.aload_n 2, 1) := by decide +kernel
theorem dX10_writeBehind_18 : decode cX10_writeBehind 18 = .ok (.getfield 98, 3) := by decide +kernel
theorem dX10_writeBehind_21 : decode cX10_writeBehind 21 = .ok (.ifnull 13, 3) := by decide +kernel
theorem dX10_writeBehind_24 : decode cX10_writeBehind 24 = .ok (.aload_n 0, 1) := by decide +kernel
theorem dX10_writeBehind_25 : decode cX10_writeBehind 25 = .ok (.getfield 15, 3) := by decide +kernel
theorem dX10_writeBehind_28 : decode cX10_writeBehind 28 = .ok (.bipush 44, 2) := by decide +kernel
theorem dX10_writeBehind_30 : decode cX10_writeBehind 30 = .ok (.invokevirtual 55, 3) := by decide +kernel
theorem dX10_writeBehind_33 : decode cX10_writeBehind 33 = .ok (.return_, 1) := by decide +kernel
theorem dX10_writeBehind_34 : decode cX10_writeBehind 34 = .ok (.aload_n 2, 1) := by decide +kernel
theorem dX10_writeBehind_35 : decode cX10_writeBehind 35 = .ok (.getfield 95, 3) := by decide +kernel
theorem dX10_writeBehind_38 : decode cX10_writeBehind 38 = .ok (.invokevirtual 87, 3) := by decide +kernel
theorem dX10_writeBehind_41 : decode cX10_writeBehind 41 = .ok (.ifCond .eq 12, 3) := by decide +kernel
theorem dX10_writeBehind_44 : decode cX10_writeBehind 44 = .ok (.aload_n 0, 1) := by decide +kernel
theorem dX10_writeBehind_45 : decode cX10_writeBehind 45 = .ok (.getfield 15, 3) := by decide +kernel
theorem dX10_writeBehind_48 : decode cX10_writeBehind 48 = .ok (.bipush 41, 2) := by decide +kernel
theorem dX10_writeBehind_50 : decode cX10_writeBehind 50 = .ok (.invokevirtual 55, 3) := by decide +kernel
theorem dX10_writeBehind_53 : decode cX10_writeBehind 53 = .ok (.aload_n 2, 1) := by decide +kernel
theorem dX10_writeBehind_54 : decode cX10_writeBehind 54 = .ok (.getfield 95, 3) := by decide +kernel
theorem dX10_writeBehind_57 : decode cX10_writeBehind 57 = .ok (.astore_n 2, 1) := by decide +kernel
theorem dX10_writeBehind_58 : decode cX10_writeBehind 58 = .ok (.goto (-48), 3) := by decide +kernel
theorem dX10_writeBehind_61 : decode cX10_writeBehind 61 = .ok (.return_, 1) := by decide +kernel
theorem pyX10_writeBehind : PY yX10_writeBehind 1 := ⟨by decide +kernel, by decide +kernel, by decide +kernel⟩
def fX10_writeBehind_10 (Y : LY) : Nat → HS → Option Nat → Option Nat → Option (HS)
  | 0, _, _, _ => none
  | n + 1, S, l0, l2 =>
    (gR Y 4 409 l2 S).bind fun v11 =>
    if v11 = none then
      some S
    else
      (gR Y 4 412 l2 S).bind fun v18 =>
      if v18 = none then
        (gR Y 4 409 l2 S).bind fun v35 =>
        (rcv Y 4 v35).bind fun _ =>
        (fX4_hasList Y S v35 ).bind fun v38 =>
        if v38 = 0 then
          (gR Y 4 409 l2 S).bind fun v54 =>
          fX10_writeBehind_10 Y n S l0 v54
        else
          (gR Y 10 1001 l0 S).bind fun v45 =>
          (rcv Y 7 v45).bind fun _ =>
          (fX7_add Y S v45 41).bind fun S50 =>
          (gR Y 4 409 l2 S50).bind fun v54 =>
          fX10_writeBehind_10 Y n S50 l0 v54
      else
        (gR Y 10 1001 l0 S).bind fun v25 =>
        (rcv Y 7 v25).bind fun _ =>
        (fX7_add Y S v25 44).bind fun S30 =>
        some S30
set_option maxRecDepth 100000 in
set_option maxHeartbeats 4000000 in
theorem wX10_writeBehind_10 {p : Program} {l : Launch} {e : Env} {R : Room} {s : State} {m : MethodId} {args : Array Value} {below : List Frame} {meth : Method} {c : Code} {G : GG} {Y : LY} {res : HS} (X : Cx p R s m args meth c RX10 cX10_writeBehind 3 1 21 (fun q => q ∈ Y.1) G none) : ∀ (n : Nat) (S : HS) (l0 : Option Nat) (l2 : Option Nat), fX10_writeBehind_10 Y n S l0 l2 = some res → ∀ (H : Heap) (locs : List Loc) (ls : Array Slot), HP (fun q => q ∈ Y.1) G Y s S H locs → LV ls 3 [(0, va_rf l0), (2, va_rf l2)] → W p l e R s m args below meth c H locs 0 0 (MQ below (QI G Y res none) args s 0 0 (fun q => q ∈ Y.1)) (F0 m 10 ls []) := by
  have hx := X.1.1
  have hb := X.1.2.1
  intro n
  induction n with
  | zero =>
    intro S l0 l2 hf
    cases hf
  | succ n ih =>
    intro S l0 l2 hf H locs ls hP hl
    rw [fX10_writeBehind_10] at hf
    refine rw_aload_n X dX10_writeBehind_10 rfl (hl.at 1 rfl) ?_
    obtain ⟨v11, e11, hf⟩ := ob hf
    refine rw_getR X dX10_writeBehind_11 fl10_95 e11 rfl hP ?_
    refine rw_ifnull X (tgt := 61) dX10_writeBehind_14 (by decide) (fun c14 => ?_) (fun c14 => ?_)
    · have hf := ifp hf c14
      cases hf
      exact rw_vret X dX10_writeBehind_61 hP
    · have hf := ifn hf c14
      refine rw_aload_n X dX10_writeBehind_17 rfl (hl.at 1 rfl) ?_
      obtain ⟨v18, e18, hf⟩ := ob hf
      refine rw_getR X dX10_writeBehind_18 fl10_98 e18 rfl hP ?_
      refine rw_ifnull X (tgt := 34) dX10_writeBehind_21 (by decide) (fun c21 => ?_) (fun c21 => ?_)
      · have hf := ifp hf c21
        refine rw_aload_n X dX10_writeBehind_34 rfl (hl.at 1 rfl) ?_
        obtain ⟨v35, e35, hf⟩ := ob hf
        refine rw_getR X dX10_writeBehind_35 fl10_95 e35 rfl hP ?_
        obtain ⟨u38, r38, hf⟩ := ob hf
        obtain ⟨v38, e38, hf⟩ := ob hf
        refine rw_callVi (As := []) X dX10_writeBehind_38 clX10_87 pyX4_hasList (mX4_hasList l e38) (by decide) r38 rfl hP rfl (catL c1n (Nat.le_of_ble_eq_true rfl)) hl.1.1 (fun H locs hP => ?_)
        refine lv_if_eq hx hb (tgt := 53) dX10_writeBehind_41 (by decide) (fun c41 => ?_) (fun c41 => ?_)
        · have hf := ifp hf c41
          refine rw_aload_n X dX10_writeBehind_53 rfl (hl.at 1 rfl) ?_
          obtain ⟨v54, e54, hf⟩ := ob hf
          refine rw_getR X dX10_writeBehind_54 fl10_95 e54 rfl hP ?_
          refine rv_astore_n X dX10_writeBehind_57 rfl hl (by decide) rfl (fun ls hl => ?_)
          have hl : LV ls 3 [(2, va_rf v54), (0, va_rf l0)] := hl
          refine lv_goto (tgt := 10) hx hb dX10_writeBehind_58 (by decide) ?_
          exact ih S l0 v54 hf _ _ _ hP (hl.sub [1, 0] rfl)
        · have hf := ifn hf c41
          refine rw_aload_n X dX10_writeBehind_44 rfl (hl.at 0 rfl) ?_
          obtain ⟨v45, e45, hf⟩ := ob hf
          refine rw_getR X dX10_writeBehind_45 fl10_15 e45 rfl hP ?_
          refine lv_bipush (v := 41) hx hb dX10_writeBehind_48 (by decide) ?_
          obtain ⟨u50, r50, hf⟩ := ob hf
          obtain ⟨S50, e50, hf⟩ := ob hf
          refine rw_callVv (As := [.int 41]) X dX10_writeBehind_50 clX10_55 pyX7_add (mX7_add l e50) (by decide) r50 rfl hP rfl (catL c1n (Nat.le_of_ble_eq_true rfl)) hl.1.1 (fun H locs hP => ?_)
          refine rw_aload_n X dX10_writeBehind_53 rfl (hl.at 1 rfl) ?_
          obtain ⟨v54, e54, hf⟩ := ob hf
          refine rw_getR X dX10_writeBehind_54 fl10_95 e54 rfl hP ?_
          refine rv_astore_n X dX10_writeBehind_57 rfl hl (by decide) rfl (fun ls hl => ?_)
          have hl : LV ls 3 [(2, va_rf v54), (0, va_rf l0)] := hl
          refine lv_goto (tgt := 10) hx hb dX10_writeBehind_58 (by decide) ?_
          exact ih S50 l0 v54 hf _ _ _ hP (hl.sub [1, 0] rfl)
      · have hf := ifn hf c21
        refine rw_aload_n X dX10_writeBehind_24 rfl (hl.at 0 rfl) ?_
        obtain ⟨v25, e25, hf⟩ := ob hf
        refine rw_getR X dX10_writeBehind_25 fl10_15 e25 rfl hP ?_
        refine lv_bipush (v := 44) hx hb dX10_writeBehind_28 (by decide) ?_
        obtain ⟨u30, r30, hf⟩ := ob hf
        obtain ⟨S30, e30, hf⟩ := ob hf
        refine rw_callVv (As := [.int 44]) X dX10_writeBehind_30 clX10_55 pyX7_add (mX7_add l e30) (by decide) r30 rfl hP rfl (catL c1n (Nat.le_of_ble_eq_true rfl)) hl.1.1 (fun H locs hP => ?_)
        cases hf
        exact rw_vret X dX10_writeBehind_33 hP
def fX10_writeBehind (Y : LY) (S : HS) (l0 : Option Nat) (l1 : Option Nat) : Option (HS) :=
  (gR Y 4 410 l1 S).bind fun v1 =>
  if v1 = none then
    fX10_writeBehind_10 Y FU S l0 l1
  else
    some S
set_option maxRecDepth 100000 in
set_option maxHeartbeats 4000000 in
theorem mX10_writeBehind (l : Launch) {G : GG} {Y : LY} {S : HS} {l0 : Option Nat} {l1 : Option Nat} {res : HS} (hf : fX10_writeBehind Y S l0 l1 = some res) : MM l yX10_writeBehind cX10_writeBehind 3 none 1 21 G Y S [va_rf l0, va_rf l1] res none := by
  refine mm_of2 (plainFor_of_name (by decide +kernel)) (Nat.le_of_ble_eq_true rfl) (c1c (cr _) (c1c (cr _) c1n)) ?_
  intro p e R s m args below meth c X H locs ls hP hl
  have X : Cx p R s m args meth c RX10 cX10_writeBehind 3 1 21 (fun q => q ∈ Y.1) G none := X
  have hx := X.1.1
  have hb := X.1.2.1
  have hl : LV ls 3 [(0, va_rf l0), (1, va_rf l1)] := hl
  unfold fX10_writeBehind at hf
  refine rw_aload_n X dX10_writeBehind_0 rfl (hl.at 1 rfl) ?_
  obtain ⟨v1, e1, hf⟩ := ob hf
  refine rw_getR X dX10_writeBehind_1 fl10_91 e1 rfl hP ?_
  refine rw_ifnull X (tgt := 8) dX10_writeBehind_4 (by decide) (fun c4 => ?_) (fun c4 => ?_)
  · have hf := ifp hf c4
    refine rw_aload_n X dX10_writeBehind_8 rfl (hl.at 1 rfl) ?_
    refine rv_astore_n X dX10_writeBehind_9 rfl hl (by decide) rfl (fun ls hl => ?_)
    have hl : LV ls 3 [(2, va_rf l1), (0, va_rf l0), (1, va_rf l1)] := hl
    exact wX10_writeBehind_10 X FU S l0 l1 hf _ _ _ hP (hl.sub [1, 0] rfl)
  · have hf := ifn hf c4
    cases hf
    exact rw_vret X dX10_writeBehind_7 hP
theorem dX10_writeTree_0 : decode cX10_writeTree 0 = .ok (.aload_n 0, 1) := by decide +kernel
theorem dX10_writeTree_1 : decode cX10_writeTree 1 = .ok (.getfield 15, 3) := by decide +kernel
theorem dX10_writeTree_4 : decode cX10_writeTree 4 = .ok (.invokevirtual 19, 3) := by decide +kernel
theorem dX10_writeTree_7 : decode cX10_writeTree 7 = .ok (.iconst 0, 1) := by decide +kernel
theorem dX10_writeTree_8 : decode cX10_writeTree 8 = .ok (.istore_n 1, 1) := by decide +kernel
theorem dX10_writeTree_9 : decode cX10_writeTree 9 = .ok (.iload_n 1, 1) := by decide +kernel
theorem dX10_writeTree_10 : decode cX10_writeTree 10 = .ok (.bipush 24, 2) := by decide +kernel
theorem dX10_writeTree_12 : decode cX10_writeTree 12 = .ok (.if_icmp .ge 32, 3) := by decide +kernel
theorem dX10_writeTree_15 : decode cX10_writeTree 15 = .ok (.aload_n 0, 1) := by decide +kernel
theorem dX10_writeTree_16 : decode cX10_writeTree 16 = .ok (.getfield 9, 3) := by decide +kernel
theorem dX10_writeTree_19 : decode cX10_writeTree 19 = .ok (.iload_n 1, 1) := by decide +kernel
theorem dX10_writeTree_20 : decode cX10_writeTree 20 = .ok (.invokevirtual 24, 3) := by decide +kernel
theorem dX10_writeTree_23 : decode cX10_writeTree 23 = .ok (.astore_n 2, 1) := by decide +kernel
theorem dX10_writeTree_24 : decode cX10_writeTree 24 = .ok (.aload_n 2, 1) := by decide +kernel
theorem dX10_writeTree_25 : decode cX10_writeTree 25 = .ok (.ifnull 13, 3) := by decide +kernel
theorem dX10_writeTree_28 : decode cX10_writeTree 28 = .ok (.aload_n 0, 1) := by decide +kernel
theorem dX10_writeTree_29 : decode cX10_writeTree 29 = .ok (.aload_n 2, 1) := by decide +kernel
theorem dX10_writeTree_30 : decode cX10_writeTree 30 = .ok (.invokevirtual 30, 3) := by decide +kernel
theorem dX10_writeTree_33 : decode cX10_writeTree 33 = .ok (.aload_n 0, 1) := by decide +kernel
theorem dX10_writeTree_34 : decode cX10_writeTree 34 = .ok (.aload_n 2, 1) := by decide +kernel
theorem dX10_writeTree_35 : decode cX10_writeTree 35 = .ok (.invokevirtual 34, 3) := by decide +kernel
theorem dX10_writeTree_38 : decode cX10_writeTree 38 = .ok (.iinc 1 1, 3) := by decide +kernel
theorem dX10_writeTree_41 : decode cX10_writeTree 41 = .ok (.goto (-32), 3) := by decide +kernel
theorem dX10_writeTree_44 : decode cX10_writeTree 44 = .ok (.return_, 1) := by decide +kernel
theorem pyX10_writeTree : PY yX10_writeTree 0 := ⟨by decide +kernel, by decide +kernel, by decide +kernel⟩
def fX10_writeTree_9 (Y : LY) : Nat → HS → Option Nat → Int32 → Option (HS)
  | 0, _, _, _ => none
  | n + 1, S, l0, l1 =>
    if 24 ≤ l1 then
      some S
    else
      (gR Y 10 1000 l0 S).bind fun v16 =>
      (rcv Y 8 v16).bind fun _ =>
      (fX8_nodeAt Y S v16 l1).bind fun v20 =>
      if v20 = none then
        fX10_writeTree_9 Y n S l0 (l1 + 1)
      else
        (rcv Y 10 l0).bind fun _ =>
        (fX10_writeHead Y S l0 v20).bind fun S30 =>
        (rcv Y 10 l0).bind fun _ =>
        (fX10_writeBehind Y S30 l0 v20).bind fun S35 =>
        fX10_writeTree_9 Y n S35 l0 (l1 + 1)
set_option maxRecDepth 100000 in
set_option maxHeartbeats 4000000 in
theorem wX10_writeTree_9 {p : Program} {l : Launch} {e : Env} {R : Room} {s : State} {m : MethodId} {args : Array Value} {below : List Frame} {meth : Method} {c : Code} {G : GG} {Y : LY} {res : HS} (X : Cx p R s m args meth c RX10 cX10_writeTree 3 9 421 (fun q => q ∈ Y.1) G none) : ∀ (n : Nat) (S : HS) (l0 : Option Nat) (l1 : Int32), fX10_writeTree_9 Y n S l0 l1 = some res → ∀ (H : Heap) (locs : List Loc) (ls : Array Slot), HP (fun q => q ∈ Y.1) G Y s S H locs → LV ls 3 [(0, va_rf l0), (1, .int l1)] → W p l e R s m args below meth c H locs 0 0 (MQ below (QI G Y res none) args s 0 0 (fun q => q ∈ Y.1)) (F0 m 9 ls []) := by
  have hx := X.1.1
  have hb := X.1.2.1
  intro n
  induction n with
  | zero =>
    intro S l0 l1 hf
    cases hf
  | succ n ih =>
    intro S l0 l1 hf H locs ls hP hl
    rw [fX10_writeTree_9] at hf
    refine lv_iload_n hx hb dX10_writeTree_9 rfl (hl.at 1 rfl) ?_
    refine lv_bipush (v := 24) hx hb dX10_writeTree_10 (by decide) ?_
    refine lv_icmp_ge hx hb (tgt := 44) dX10_writeTree_12 (by decide) (fun c12 => ?_) (fun c12 => ?_)
    · have hf := ifp hf c12
      cases hf
      exact rw_vret X dX10_writeTree_44 hP
    · have hf := ifn hf c12
      refine rw_aload_n X dX10_writeTree_15 rfl (hl.at 0 rfl) ?_
      obtain ⟨v16, e16, hf⟩ := ob hf
      refine rw_getR X dX10_writeTree_16 fl10_9 e16 rfl hP ?_
      refine lv_iload_n hx hb dX10_writeTree_19 rfl (hl.at 1 rfl) ?_
      obtain ⟨u20, r20, hf⟩ := ob hf
      obtain ⟨v20, e20, hf⟩ := ob hf
      refine rw_callVr (As := [.int l1]) X dX10_writeTree_20 clX10_24 pyX8_nodeAt (mX8_nodeAt l e20) (by decide) r20 rfl hP rfl (catL c1n (Nat.le_of_ble_eq_true rfl)) hl.1.1 (fun H locs hP => ?_)
      refine rv_astore_n X dX10_writeTree_23 rfl hl (by decide) rfl (fun ls hl => ?_)
      have hl : LV ls 3 [(2, va_rf v20), (0, va_rf l0), (1, .int l1)] := hl
      refine rw_aload_n X dX10_writeTree_24 rfl (hl.at 0 rfl) ?_
      refine rw_ifnull X (tgt := 38) dX10_writeTree_25 (by decide) (fun c25 => ?_) (fun c25 => ?_)
      · have hf := ifp hf c25
        refine rv_iinc (k := 2) (d := 1) X dX10_writeTree_38 hl rfl (by decide) (by decide) rfl (fun ls hl => ?_)
        have hl : LV ls 3 [(1, .int (l1 + 1)), (2, va_rf v20), (0, va_rf l0)] := hl
        refine lv_goto (tgt := 9) hx hb dX10_writeTree_41 (by decide) ?_
        exact ih S l0 (l1 + 1) hf _ _ _ hP (hl.sub [2, 0] rfl)
      · have hf := ifn hf c25
        refine rw_aload_n X dX10_writeTree_28 rfl (hl.at 1 rfl) ?_
        refine rw_aload_n X dX10_writeTree_29 rfl (hl.at 0 rfl) ?_
        obtain ⟨u30, r30, hf⟩ := ob hf
        obtain ⟨S30, e30, hf⟩ := ob hf
        refine rw_callVv (As := [va_rf v20]) X dX10_writeTree_30 clX10_30 pyX10_writeHead (mX10_writeHead l e30) (by decide) r30 rfl hP rfl (catL c1n (Nat.le_of_ble_eq_true rfl)) hl.1.1 (fun H locs hP => ?_)
        refine rw_aload_n X dX10_writeTree_33 rfl (hl.at 1 rfl) ?_
        refine rw_aload_n X dX10_writeTree_34 rfl (hl.at 0 rfl) ?_
        obtain ⟨u35, r35, hf⟩ := ob hf
        obtain ⟨S35, e35, hf⟩ := ob hf
        refine rw_callVv (As := [va_rf v20]) X dX10_writeTree_35 clX10_34 pyX10_writeBehind (mX10_writeBehind l e35) (by decide) r35 rfl hP rfl (catL c1n (Nat.le_of_ble_eq_true rfl)) hl.1.1 (fun H locs hP => ?_)
        refine rv_iinc (k := 2) (d := 1) X dX10_writeTree_38 hl rfl (by decide) (by decide) rfl (fun ls hl => ?_)
        have hl : LV ls 3 [(1, .int (l1 + 1)), (2, va_rf v20), (0, va_rf l0)] := hl
        refine lv_goto (tgt := 9) hx hb dX10_writeTree_41 (by decide) ?_
        exact ih S35 l0 (l1 + 1) hf _ _ _ hP (hl.sub [2, 0] rfl)
def fX10_writeTree (Y : LY) (S : HS) (l0 : Option Nat) : Option (HS) :=
  (gR Y 10 1001 l0 S).bind fun v1 =>
  (rcv Y 7 v1).bind fun _ =>
  (fX7_clear Y S v1 ).bind fun S4 =>
  fX10_writeTree_9 Y FU S4 l0 0
set_option maxRecDepth 100000 in
set_option maxHeartbeats 4000000 in
theorem mX10_writeTree (l : Launch) {G : GG} {Y : LY} {S : HS} {l0 : Option Nat} {res : HS} (hf : fX10_writeTree Y S l0 = some res) : MM l yX10_writeTree cX10_writeTree 3 none 9 421 G Y S [va_rf l0] res none := by
  refine mm_of2 (plainFor_of_name (by decide +kernel)) (Nat.le_of_ble_eq_true rfl) (c1c (cr _) c1n) ?_
  intro p e R s m args below meth c X H locs ls hP hl
  have X : Cx p R s m args meth c RX10 cX10_writeTree 3 9 421 (fun q => q ∈ Y.1) G none := X
  have hx := X.1.1
  have hb := X.1.2.1
  have hl : LV ls 3 [(0, va_rf l0)] := hl
  unfold fX10_writeTree at hf
  refine rw_aload_n X dX10_writeTree_0 rfl (hl.at 0 rfl) ?_
  obtain ⟨v1, e1, hf⟩ := ob hf
  refine rw_getR X dX10_writeTree_1 fl10_15 e1 rfl hP ?_
  obtain ⟨u4, r4, hf⟩ := ob hf
  obtain ⟨S4, e4, hf⟩ := ob hf
  refine rw_callVv (As := []) X dX10_writeTree_4 clX10_19 pyX7_clear (mX7_clear l e4) (by decide) r4 rfl hP rfl (catL c1n (Nat.le_of_ble_eq_true rfl)) hl.1.1 (fun H locs hP => ?_)
  refine lv_iconst (v := 0) hx hb dX10_writeTree_7 (by decide) ?_
  refine rv_istore_n X dX10_writeTree_8 rfl hl (by decide) rfl (fun ls hl => ?_)
  have hl : LV ls 3 [(1, .int 0), (0, va_rf l0)] := hl
  exact wX10_writeTree_9 X FU S4 l0 0 hf _ _ _ hP (hl.sub [1, 0] rfl)
end
section
/-! printed by wip/whole/gen/gen_parts.py: 17.parser -/
theorem dX5_readDigit_0 : decode cX5_readDigit 0 = .ok (.aload_n 0, 1) := by decide +kernel
theorem dX5_readDigit_1 : decode cX5_readDigit 1 = .ok (.getfield 15, 3) := by decide +kernel
theorem dX5_readDigit_4 : decode cX5_readDigit 4 = .ok (.aload_n 0, 1) := by decide +kernel
theorem dX5_readDigit_5 : decode cX5_readDigit 5 = .ok (.getfield 9, 3) := by decide +kernel
theorem dX5_readDigit_8 : decode cX5_readDigit 8 = .ok (.invokevirtual 89, 3) := by decide +kernel
theorem dX5_readDigit_11 : decode cX5_readDigit 11 = .ok (.bipush 48, 2) := by decide +kernel
theorem dX5_readDigit_13 : decode cX5_readDigit 13 = .ok (.isub, 1) := by decide +kernel
theorem dX5_readDigit_14 : decode cX5_readDigit 14 = .ok (.istore_n 3, 1) := by decide +kernel
theorem dX5_readDigit_15 : decode cX5_readDigit 15 = .ok (.iload_n 3, 1) := by decide +kernel
theorem dX5_readDigit_16 : decode cX5_readDigit 16 = .ok (.iload_n 1, 1) := by decide +kernel
theorem dX5_readDigit_17 : decode cX5_readDigit 17 = .ok (.if_icmp .lt 8, 3) := by decide +kernel
theorem dX5_readDigit_20 : decode cX5_readDigit 20 = .ok (.iload_n 3, 1) := by decide +kernel
theorem dX5_readDigit_21 : decode cX5_readDigit 21 = .ok (.iload_n 2, 1) := by decide +kernel
theorem dX5_readDigit_22 : decode cX5_readDigit 22 = .ok (.if_icmp .le 5, 3) := by decide +kernel
theorem dX5_readDigit_25 : decode cX5_readDigit 25 = .ok (.iconst (-1), 1) := by decide +kernel
theorem dX5_readDigit_26 : decode cX5_readDigit 26 = .ok (.ireturn, 1) := by decide +kernel
theorem dX5_readDigit_27 : decode cX5_readDigit 27 = .ok (.aload_n 0, 1) := by decide +kernel
theorem dX5_readDigit_28 : decode cX5_readDigit 28 = .ok (.dup, 1) := by decide +kernel
theorem dX5_readDigit_29 : decode cX5_readDigit 29 = .ok (.getfield 9, 3) := by decide +kernel
theorem dX5_readDigit_32 : decode cX5_readDigit 32 = .ok (.iconst 1, 1) := by decide +kernel
theorem dX5_readDigit_33 : decode cX5_readDigit 33 = .ok (.iadd, 1) := by decide +kernel
theorem dX5_readDigit_34 : decode cX5_readDigit 34 = .ok (.putfield 9, 3) := by decide +kernel
theorem dX5_readDigit_37 : decode cX5_readDigit 37 = .ok (.iload_n 3, 1) := by decide +kernel
theorem dX5_readDigit_38 : decode cX5_readDigit 38 = .ok (.ireturn, 1) := by decide +kernel
theorem pyX5_readDigit : PY yX5_readDigit 2 := ⟨by decide +kernel, by decide +kernel, by decide +kernel⟩
def fX5_readDigit (Y : LY) (S : HS) (l0 : Option Nat) (l1 : Int32) (l2 : Int32) : Option (HS × Int32) :=
  (gR Y 5 500 l0 S).bind fun v1 =>
  (gI Y 5 502 l0 S).bind fun v5 =>
  (rcv Y 7 v1).bind fun _ =>
  (fX7_codeAt Y S v1 v5).bind fun v8 =>
  if (v8 - 48) < l1 then
    some (S, (-1))
  else
    if (v8 - 48) ≤ l2 then
      (gI Y 5 502 l0 S).bind fun v29 =>
      (pI Y 5 502 l0 (v29 + 1) S).bind fun S34 =>
      some (S34, (v8 - 48))
    else
      some (S, (-1))
set_option maxRecDepth 100000 in
set_option maxHeartbeats 4000000 in
theorem mX5_readDigit (l : Launch) {G : GG} {Y : LY} {S : HS} {l0 : Option Nat} {l1 : Int32} {l2 : Int32} {res : HS × Int32} (hf : fX5_readDigit Y S l0 l1 l2 = some res) : MM l yX5_readDigit cX5_readDigit 4 (some .int) 1 21 G Y S [va_rf l0, .int l1, .int l2] res.1 (some (.int res.2)) := by
  refine mm_of2 (plainFor_of_name (by decide +kernel)) (Nat.le_of_ble_eq_true rfl) (c1c (cr _) (c1c (ci _) (c1c (ci _) c1n))) ?_
  intro p e R s m args below meth c X H locs ls hP hl
  have X : Cx p R s m args meth c RX5 cX5_readDigit 4 1 21 (fun q => q ∈ Y.1) G (some .int) := X
  have hx := X.1.1
  have hb := X.1.2.1
  have hl : LV ls 4 [(0, va_rf l0), (1, .int l1), (2, .int l2)] := hl
  unfold fX5_readDigit at hf
  refine rw_aload_n X dX5_readDigit_0 rfl (hl.at 0 rfl) ?_
  obtain ⟨v1, e1, hf⟩ := ob hf
  refine rw_getR X dX5_readDigit_1 fl5_15 e1 rfl hP ?_
  refine rw_aload_n X dX5_readDigit_4 rfl (hl.at 0 rfl) ?_
  obtain ⟨v5, e5, hf⟩ := ob hf
  refine rw_getI X dX5_readDigit_5 fl5_9 e5 rfl hP ?_
  obtain ⟨u8, r8, hf⟩ := ob hf
  obtain ⟨v8, e8, hf⟩ := ob hf
  refine rw_callVi (As := [.int v5]) X dX5_readDigit_8 clX5_89 pyX7_codeAt (mX7_codeAt l e8) (by decide) r8 rfl hP rfl (catL c1n (Nat.le_of_ble_eq_true rfl)) hl.1.1 (fun H locs hP => ?_)
  refine lv_bipush (v := 48) hx hb dX5_readDigit_11 (by decide) ?_
  refine lv_isub hx hb dX5_readDigit_13 ?_
  refine rv_istore_n X dX5_readDigit_14 rfl hl (by decide) rfl (fun ls hl => ?_)
  have hl : LV ls 4 [(3, .int (v8 - 48)), (0, va_rf l0), (1, .int l1), (2, .int l2)] := hl
  refine lv_iload_n hx hb dX5_readDigit_15 rfl (hl.at 0 rfl) ?_
  refine lv_iload_n hx hb dX5_readDigit_16 rfl (hl.at 2 rfl) ?_
  refine lv_icmp_lt hx hb (tgt := 25) dX5_readDigit_17 (by decide) (fun c17 => ?_) (fun c17 => ?_)
  · have hf := ifp hf c17
    refine lv_iconst (v := (-1)) hx hb dX5_readDigit_25 (by decide) ?_
    cases hf
    exact rw_iret X dX5_readDigit_26 hP
  · have hf := ifn hf c17
    refine lv_iload_n hx hb dX5_readDigit_20 rfl (hl.at 0 rfl) ?_
    refine lv_iload_n hx hb dX5_readDigit_21 rfl (hl.at 3 rfl) ?_
    refine lv_icmp_le hx hb (tgt := 27) dX5_readDigit_22 (by decide) (fun c22 => ?_) (fun c22 => ?_)
    · have hf := ifp hf c22
      refine rw_aload_n X dX5_readDigit_27 rfl (hl.at 1 rfl) ?_
      refine lv_dup hx hb dX5_readDigit_28 (cr _) ?_
      obtain ⟨v29, e29, hf⟩ := ob hf
      refine rw_getI X dX5_readDigit_29 fl5_9 e29 rfl hP ?_
      refine lv_iconst (v := 1) hx hb dX5_readDigit_32 (by decide) ?_
      refine lv_iadd hx hb dX5_readDigit_33 ?_
      obtain ⟨S34, e34, hf⟩ := ob hf
      refine rw_putI X dX5_readDigit_34 fl5_9 fw5_2 e34 rfl hP (fun H locs hP => ?_)
      refine lv_iload_n hx hb dX5_readDigit_37 rfl (hl.at 0 rfl) ?_
      cases hf
      exact rw_iret X dX5_readDigit_38 hP
    · have hf := ifn hf c22
      refine lv_iconst (v := (-1)) hx hb dX5_readDigit_25 (by decide) ?_
      cases hf
      exact rw_iret X dX5_readDigit_26 hP
theorem dX5_readNumber_0 : decode cX5_readNumber 0 = .ok (.aload_n 0, 1) := by decide +kernel
theorem dX5_readNumber_1 : decode cX5_readNumber 1 = .ok (.iload_n 2, 1) := by decide +kernel
theorem dX5_readNumber_2 : decode cX5_readNumber 2 = .ok (.iload_n 3, 1) := by decide +kernel
theorem dX5_readNumber_3 : decode cX5_readNumber 3 = .ok (.invokevirtual 82, 3) := by decide +kernel
theorem dX5_readNumber_6 : decode cX5_readNumber 6 = .ok (.istore 4, 2) := by decide +kernel
theorem dX5_readNumber_8 : decode cX5_readNumber 8 = .ok (.iload 4, 2) := by decide +kernel
theorem dX5_readNumber_10 : decode cX5_readNumber 10 = .ok (.ifCond .ge 5, 3) := by decide +kernel
theorem dX5_readNumber_13 : decode cX5_readNumber 13 = .ok (.iconst 0, 1) := by decide +kernel
theorem dX5_readNumber_14 : decode cX5_readNumber 14 = .ok (.ireturn, 1) := by decide +kernel
theorem dX5_readNumber_15 : decode cX5_readNumber 15 = .ok (.aload_n 1, 1) := by decide +kernel
theorem dX5_readNumber_16 : decode cX5_readNumber 16 = .ok (.iload 4, 2) := by decide +kernel
theorem dX5_readNumber_18 : decode cX5_readNumber 18 = .ok (.putfield 86, 3) := by decide +kernel
theorem dX5_readNumber_21 : decode cX5_readNumber 21 = .ok (.iconst 1, 1) := by decide +kernel
theorem dX5_readNumber_22 : decode cX5_readNumber 22 = .ok (.ireturn, 1) := by decide +kernel
theorem pyX5_readNumber : PY yX5_readNumber 3 := ⟨by decide +kernel, by decide +kernel, by decide +kernel⟩
def fX5_readNumber (Y : LY) (S : HS) (l0 : Option Nat) (l1 : Option Nat) (l2 : Int32) (l3 : Int32) : Option (HS × Int32) :=
  (rcv Y 5 l0).bind fun _ =>
  (fX5_readDigit Y S l0 l2 l3).bind fun q3 =>
  if 0 ≤ q3.2 then
    (pI Y 4 405 l1 q3.2 q3.1).bind fun S18 =>
    some (S18, 1)
  else
    some (q3.1, 0)
set_option maxRecDepth 100000 in
set_option maxHeartbeats 4000000 in
theorem mX5_readNumber (l : Launch) {G : GG} {Y : LY} {S : HS} {l0 : Option Nat} {l1 : Option Nat} {l2 : Int32} {l3 : Int32} {res : HS × Int32} (hf : fX5_readNumber Y S l0 l1 l2 l3 = some res) : MM l yX5_readNumber cX5_readNumber 5 (some .boolean) 2 44 G Y S [va_rf l0, va_rf l1, .int l2, .int l3] res.1 (some (.int res.2)) := by
  refine mm_of2 (plainFor_of_name (by decide +kernel)) (Nat.le_of_ble_eq_true rfl) (c1c (cr _) (c1c (cr _) (c1c (ci _) (c1c (ci _) c1n)))) ?_
  intro p e R s m args below meth c X H locs ls hP hl
  have X : Cx p R s m args meth c RX5 cX5_readNumber 5 2 44 (fun q => q ∈ Y.1) G (some .boolean) := X
  have hx := X.1.1
  have hb := X.1.2.1
  have hl : LV ls 5 [(0, va_rf l0), (1, va_rf l1), (2, .int l2), (3, .int l3)] := hl
  unfold fX5_readNumber at hf
  refine rw_aload_n X dX5_readNumber_0 rfl (hl.at 0 rfl) ?_
  refine lv_iload_n hx hb dX5_readNumber_1 rfl (hl.at 2 rfl) ?_
  refine lv_iload_n hx hb dX5_readNumber_2 rfl (hl.at 3 rfl) ?_
  obtain ⟨u3, r3, hf⟩ := ob hf
  obtain ⟨q3, e3, hf⟩ := ob hf
  refine rw_callVi (As := [.int l2, .int l3]) X dX5_readNumber_3 clX5_82 pyX5_readDigit (mX5_readDigit l e3) (by decide) r3 rfl hP rfl (catL c1n (Nat.le_of_ble_eq_true rfl)) hl.1.1 (fun H locs hP => ?_)
  refine rv_istore X dX5_readNumber_6 hl (by decide) rfl (fun ls hl => ?_)
  have hl : LV ls 5 [(4, .int q3.2), (0, va_rf l0), (1, va_rf l1), (2, .int l2), (3, .int l3)] := hl
  refine lv_iload hx hb dX5_readNumber_8 (hl.at 0 rfl) ?_
  refine lv_if_ge hx hb (tgt := 15) dX5_readNumber_10 (by decide) (fun c10 => ?_) (fun c10 => ?_)
  · have hf := ifp hf c10
    refine rw_aload_n X dX5_readNumber_15 rfl (hl.at 2 rfl) ?_
    refine lv_iload hx hb dX5_readNumber_16 (hl.at 0 rfl) ?_
    obtain ⟨S18, e18, hf⟩ := ob hf
    refine rw_putI X dX5_readNumber_18 fl5_86 fw4_5 e18 rfl hP (fun H locs hP => ?_)
    refine lv_iconst (v := 1) hx hb dX5_readNumber_21 (by decide) ?_
    cases hf
    exact rw_zret X (by first | exact Or.inl rfl | exact Or.inr rfl) dX5_readNumber_22 hP
  · have hf := ifn hf c10
    refine lv_iconst (v := 0) hx hb dX5_readNumber_13 (by decide) ?_
    cases hf
    exact rw_zret X (by first | exact Or.inl rfl | exact Or.inr rfl) dX5_readNumber_14 hP
theorem dX5_placeIn_0 : decode cX5_placeIn 0 = .ok (.aload_n 0, 1) := by decide +kernel
theorem dX5_placeIn_1 : decode cX5_placeIn 1 = .ok (.getfield 15, 3) := by decide +kernel
theorem dX5_placeIn_4 : decode cX5_placeIn 4 = .ok (.aload_n 0, 1) := by decide +kernel
theorem dX5_placeIn_5 : decode cX5_placeIn 5 = .ok (.getfield 9, 3) := by decide +kernel
theorem dX5_placeIn_8 : decode cX5_placeIn 8 = .ok (.invokevirtual 89, 3) := by decide +kernel
theorem dX5_placeIn_11 : decode cX5_placeIn 11 = .ok (.istore_n 2, 1) := by decide +kernel
theorem dX5_placeIn_12 : decode cX5_placeIn 12 = .ok (.iload_n 2, 1) := by decide +kernel
theorem dX5_placeIn_13 : decode cX5_placeIn 13 = .ok (.ifCond .ge 7, 3) := by decide +kernel
theorem dX5_placeIn_16 : decode cX5_placeIn 16 = .ok (.iconst (-1), 1) := by decide +kernel
theorem dX5_placeIn_17 : decode cX5_placeIn 17 = .ok (.goto 9, 3) := by decide +kernel
theorem dX5_placeIn_20 : decode cX5_placeIn 20 = .ok (.aload_n 1, 1) := by decide +kernel
theorem dX5_placeIn_21 : decode cX5_placeIn 21 = .ok (.iload_n 2, 1) := by decide +kernel
theorem dX5_placeIn_22 : decode cX5_placeIn 22 = .ok (.i2c, 1) := by decide +kernel
theorem dX5_placeIn_23 : decode cX5_placeIn 23 = .ok (.invokevirtual 127, 3) := by decide +kernel
theorem dX5_placeIn_26 : decode cX5_placeIn 26 = .ok (.ireturn, 1) := by decide +kernel
theorem pyX5_placeIn : PY yX5_placeIn 1 := ⟨by decide +kernel, by decide +kernel, by decide +kernel⟩
def fX5_placeIn (Y : LY) (S : HS) (l0 : Option Nat) (l1 : Nat) : Option (Int32) :=
  (gR Y 5 500 l0 S).bind fun v1 =>
  (gI Y 5 502 l0 S).bind fun v5 =>
  (rcv Y 7 v1).bind fun _ =>
  (fX7_codeAt Y S v1 v5).bind fun v8 =>
  if 0 ≤ v8 then
    (sIx l1 ((v8.toUInt32 % 65536).toInt32)).bind fun v23 =>
    some v23
  else
    some (-1)
set_option maxRecDepth 100000 in
set_option maxHeartbeats 4000000 in
theorem mX5_placeIn (l : Launch) {G : GG} {Y : LY} {S : HS} {l0 : Option Nat} {l1 : Nat} {res : Int32} (hf : fX5_placeIn Y S l0 l1 = some res) (hl1 : l1 < 3) : MM l yX5_placeIn cX5_placeIn 3 (some .int) 8 400 G Y S [va_rf l0, .ref (G.2.2.1 l1)] S (some (.int res)) := by
  refine mm_of2 (plainFor_of_name (by decide +kernel)) (Nat.le_of_ble_eq_true rfl) (c1c (cr _) (c1c (ca _) c1n)) ?_
  intro p e R s m args below meth c X H locs ls hP hl
  have X : Cx p R s m args meth c RX5 cX5_placeIn 3 8 400 (fun q => q ∈ Y.1) G (some .int) := X
  have hx := X.1.1
  have hb := X.1.2.1
  have hl : LV ls 3 [(0, va_rf l0), (1, .ref (G.2.2.1 l1))] := hl
  unfold fX5_placeIn at hf
  refine rw_aload_n X dX5_placeIn_0 rfl (hl.at 0 rfl) ?_
  obtain ⟨v1, e1, hf⟩ := ob hf
  refine rw_getR X dX5_placeIn_1 fl5_15 e1 rfl hP ?_
  refine rw_aload_n X dX5_placeIn_4 rfl (hl.at 0 rfl) ?_
  obtain ⟨v5, e5, hf⟩ := ob hf
  refine rw_getI X dX5_placeIn_5 fl5_9 e5 rfl hP ?_
  obtain ⟨u8, r8, hf⟩ := ob hf
  obtain ⟨v8, e8, hf⟩ := ob hf
  refine rw_callVi (As := [.int v5]) X dX5_placeIn_8 clX5_89 pyX7_codeAt (mX7_codeAt l e8) (by decide) r8 rfl hP rfl (catL c1n (Nat.le_of_ble_eq_true rfl)) hl.1.1 (fun H locs hP => ?_)
  refine rv_istore_n X dX5_placeIn_11 rfl hl (by decide) rfl (fun ls hl => ?_)
  have hl : LV ls 3 [(2, .int v8), (0, va_rf l0), (1, .ref (G.2.2.1 l1))] := hl
  refine lv_iload_n hx hb dX5_placeIn_12 rfl (hl.at 0 rfl) ?_
  refine lv_if_ge hx hb (tgt := 20) dX5_placeIn_13 (by decide) (fun c13 => ?_) (fun c13 => ?_)
  · have hf := ifp hf c13
    refine lv_aload_n hx hb dX5_placeIn_20 rfl (hl.at 2 rfl) ?_
    refine lv_iload_n hx hb dX5_placeIn_21 rfl (hl.at 0 rfl) ?_
    refine lv_i2c hx hb dX5_placeIn_22 rfl ?_
    obtain ⟨v23, e23, hf⟩ := ob hf
    refine rs_ix X clX5_127 e23 (by decide) (catL c1n (Nat.le_of_ble_eq_true rfl)) hl.1.1 dX5_placeIn_23 hP (fun H locs hP => ?_)
    cases hf
    exact rw_iret X dX5_placeIn_26 hP
  · have hf := ifn hf c13
    refine lv_iconst (v := (-1)) hx hb dX5_placeIn_16 (by decide) ?_
    refine lv_goto (tgt := 26) hx hb dX5_placeIn_17 (by decide) ?_
    cases hf
    exact rw_iret X dX5_placeIn_26 hP
theorem dX5_readClause_0 : decode cX5_readClause 0 = .ok (.aload_n 0, 1) := by decide +kernel
theorem dX5_readClause_1 : decode cX5_readClause 1 = .ok (.iconst 0, 1) := by decide +kernel
theorem dX5_readClause_2 : decode cX5_readClause 2 = .ok (.bipush 7, 2) := by decide +kernel
theorem dX5_readClause_4 : decode cX5_readClause 4 = .ok (.invokevirtual 82, 3) := by decide +kernel
theorem dX5_readClause_7 : decode cX5_readClause 7 = .ok (.istore 4, 2) := by decide +kernel
theorem dX5_readClause_9 : decode cX5_readClause 9 = .ok (.iload 4, 2) := by decide +kernel
theorem dX5_readClause_11 : decode cX5_readClause 11 = .ok (.ifCond .ge 7, 3) := by decide +kernel
theorem dX5_readClause_14 : decode cX5_readClause 14 = .ok (.iconst (-1), 1) := by decide +kernel
theorem dX5_readClause_15 : decode cX5_readClause 15 = .ok (.goto 8, 3) := by decide +kernel
theorem dX5_readClause_18 : decode cX5_readClause 18 = .ok (.aload_n 0, 1) := by decide +kernel
theorem dX5_readClause_19 : decode cX5_readClause 19 = .ok (.aload_n 3, 1) := by decide +kernel
theorem dX5_readClause_20 : decode cX5_readClause 20 = .ok (.invokevirtual 39, 3) := by decide +kernel
theorem dX5_readClause_23 : decode cX5_readClause 23 = .ok (.istore 5, 2) := by decide +kernel
theorem dX5_readClause_25 : decode cX5_readClause 25 = .ok (.iload 5, 2) := by decide +kernel
theorem dX5_readClause_27 : decode cX5_readClause 27 = .ok (.ifCond .lt 12, 3) := by decide +kernel
theorem dX5_readClause_30 : decode cX5_readClause 30 = .ok (.iload 5, 2) := by decide +kernel
theorem dX5_readClause_32 : decode cX5_readClause 32 = .ok (.aload_n 3, 1) := by decide +kernel
theorem dX5_readClause_33 : decode cX5_readClause 33 = .ok (.invokevirtual 96, 3) := by decide +kernel
theorem dX5_readClause_36 : decode cX5_readClause 36 = .ok (.if_icmp .lt 5, 3) := by decide +kernel
theorem dX5_readClause_39 : decode cX5_readClause 39 = .ok (.iconst 0, 1) := by decide +kernel
theorem dX5_readClause_40 : decode cX5_readClause 40 = .ok (.ireturn, 1) := by decide +kernel
theorem dX5_readClause_41 : decode cX5_readClause 41 = .ok (.aload_n 0, 1) := by decide +kernel
theorem dX5_readClause_42 : decode cX5_readClause 42 = .ok (.dup, 1) := by decide +kernel
theorem dX5_readClause_43 : decode cX5_readClause 43 = .ok (.getfield 9, 3) := by decide +kernel
theorem dX5_readClause_46 : decode cX5_readClause 46 = .ok (.iconst 1, 1) := by decide +kernel
theorem dX5_readClause_47 : decode cX5_readClause 47 = .ok (.iadd, 1) := by decide +kernel
theorem dX5_readClause_48 : decode cX5_readClause 48 = .ok (.putfield 9, 3) := by decide +kernel
theorem dX5_readClause_51 : decode cX5_readClause 51 = .ok (.aload_n 0, 1) := by decide +kernel
theorem dX5_readClause_52 : decode cX5_readClause 52 = .ok (.iconst 0, 1) := by decide +kernel
theorem dX5_readClause_53 : decode cX5_readClause 53 = .ok (.bipush 9, 2) := by decide +kernel
theorem dX5_readClause_55 : decode cX5_readClause 55 = .ok (.invokevirtual 82, 3) := by decide +kernel
theorem dX5_readClause_58 : decode cX5_readClause 58 = .ok (.istore 6, 2) := by decide +kernel
theorem dX5_readClause_60 : decode cX5_readClause 60 = .ok (.iload 6, 2) := by decide +kernel
theorem dX5_readClause_62 : decode cX5_readClause 62 = .ok (.ifCond .ge 5, 3) := by decide +kernel
theorem dX5_readClause_65 : decode cX5_readClause 65 = .ok (.iconst 0, 1) := by decide +kernel
theorem dX5_readClause_66 : decode cX5_readClause 66 = .ok (.ireturn, 1) := by decide +kernel
theorem dX5_readClause_67 : decode cX5_readClause 67 = .ok (.aload_n 0, 1) := by decide +kernel
theorem dX5_readClause_68 : decode cX5_readClause 68 = .ok (.iconst 0, 1) := by decide +kernel
theorem dX5_readClause_69 : decode cX5_readClause 69 = .ok (.bipush 9, 2) := by decide +kernel
theorem dX5_readClause_71 : decode cX5_readClause 71 = .ok (.invokevirtual 82, 3) := by decide +kernel
theorem dX5_readClause_74 : decode cX5_readClause 74 = .ok (.istore 7, 2) := by decide +kernel
theorem dX5_readClause_76 : decode cX5_readClause 76 = .ok (.aload_n 2, 1) := by decide +kernel
theorem dX5_readClause_77 : decode cX5_readClause 77 = .ok (.iconst 1, 1) := by decide +kernel
theorem dX5_readClause_78 : decode cX5_readClause 78 = .ok (.putfield 101, 3) := by decide +kernel
theorem dX5_readClause_81 : decode cX5_readClause 81 = .ok (.aload_n 2, 1) := by decide +kernel
theorem dX5_readClause_82 : decode cX5_readClause 82 = .ok (.iload 4, 2) := by decide +kernel
theorem dX5_readClause_84 : decode cX5_readClause 84 = .ok (.putfield 107, 3) := by decide +kernel
theorem dX5_readClause_87 : decode cX5_readClause 87 = .ok (.aload_n 2, 1) := by decide +kernel
theorem dX5_readClause_88 : decode cX5_readClause 88 = .ok (.aload_n 3, 1) := by decide +kernel
theorem dX5_readClause_89 : decode cX5_readClause 89 = .ok (.iload 5, 2) := by decide +kernel
theorem dX5_readClause_91 : decode cX5_readClause 91 = .ok (.invokevirtual 110, 3) := by decide +kernel
theorem dX5_readClause_94 : decode cX5_readClause 94 = .ok (.putfield 114, 3) := by decide +kernel
theorem dX5_readClause_97 : decode cX5_readClause 97 = .ok (.aload_n 2, 1) := by decide +kernel
theorem dX5_readClause_98 : decode cX5_readClause 98 = .ok (.iload 7, 2) := by decide +kernel
theorem dX5_readClause_100 : decode cX5_readClause 100 = .ok (.ifCond .ge 8, 3) := by decide +kernel
theorem dX5_readClause_103 : decode cX5_readClause 103 = .ok (.iload 6, 2) := by decide +kernel
theorem dX5_readClause_105 : decode cX5_readClause 105 = .ok (.goto 11, 3) := by decide +kernel
theorem dX5_readClause_108 : decode cX5_readClause 108 = .ok (.bipush 10, 2) := by decide +kernel
theorem dX5_readClause_110 : decode cX5_readClause 110 = .ok (.iload 6, 2) := by decide +kernel
theorem dX5_readClause_112 : decode cX5_readClause 112 = .ok (.imul, 1) := by decide +kernel
theorem dX5_readClause_113 : decode cX5_readClause 113 = .ok (.iload 7, 2) := by decide +kernel
theorem dX5_readClause_115 : decode cX5_readClause 115 = .ok (.iadd, 1) := by decide +kernel
theorem dX5_readClause_116 : decode cX5_readClause 116 = .ok (.putfield 118, 3) := by decide +kernel
theorem dX5_readClause_119 : decode cX5_readClause 119 = .ok (.aload_n 2, 1) := by decide +kernel
theorem dX5_readClause_120 : decode cX5_readClause 120 = .ok (.aload_n 1, 1) := by decide +kernel
theorem dX5_readClause_121 : decode cX5_readClause 121 = .ok (.iload 4, 2) := by decide +kernel
theorem dX5_readClause_123 : decode cX5_readClause 123 = .ok (.invokevirtual 119, 3) := by decide +kernel
theorem dX5_readClause_126 : decode cX5_readClause 126 = .ok (.putfield 123, 3) := by decide +kernel
theorem dX5_readClause_129 : decode cX5_readClause 129 = .ok (.iconst 1, 1) := by decide +kernel
theorem dX5_readClause_130 : decode cX5_readClause 130 = .ok (.ireturn, 1) := by decide +kernel
theorem pyX5_readClause : PY yX5_readClause 3 := ⟨by decide +kernel, by decide +kernel, by decide +kernel⟩
def fX5_readClause_116 (Y : LY) (S : HS) (l1 : Option Nat) (l2 : Option Nat) (l4 : Int32) (s0 : Option Nat) (s1 : Int32) : Option (HS × Int32) :=
  (pI Y 1 103 s0 s1 S).bind fun S116 =>
  (rcv Y 4 l1).bind fun _ =>
  (fX4_scopeOf Y S116 l1 l4).bind fun v123 =>
  (pR Y 1 104 l2 v123 S116).bind fun S126 =>
  some (S126, 1)
set_option maxRecDepth 100000 in
set_option maxHeartbeats 4000000 in
theorem wX5_readClause_116 {p : Program} {l : Launch} {e : Env} {R : Room} {s : State} {m : MethodId} {args : Array Value} {below : List Frame} {meth : Method} {c : Code} {G : GG} {Y : LY} {res : HS × Int32} (X : Cx p R s m args meth c RX5 cX5_readClause 8 9 422 (fun q => q ∈ Y.1) G (some .boolean)) : ∀ (S : HS) (l1 : Option Nat) (l2 : Option Nat) (l4 : Int32) (s0 : Option Nat) (s1 : Int32), fX5_readClause_116 Y S l1 l2 l4 s0 s1 = some res → ∀ (H : Heap) (locs : List Loc) (ls : Array Slot), HP (fun q => q ∈ Y.1) G Y s S H locs → LV ls 8 [(1, va_rf l1), (2, va_rf l2), (4, .int l4)] → W p l e R s m args below meth c H locs 0 0 (MQ below (QI G Y res.1 (some (.int res.2))) args s 0 0 (fun q => q ∈ Y.1)) (F0 m 116 ls (.int s1 :: (va_rf s0 :: []))) := by
  have hx := X.1.1
  have hb := X.1.2.1
  intro S l1 l2 l4 s0 s1 hf H locs ls hP hl
  unfold fX5_readClause_116 at hf
  obtain ⟨S116, e116, hf⟩ := ob hf
  refine rw_putI X dX5_readClause_116 fl5_118 fw1_3 e116 rfl hP (fun H locs hP => ?_)
  refine rw_aload_n X dX5_readClause_119 rfl (hl.at 1 rfl) ?_
  refine rw_aload_n X dX5_readClause_120 rfl (hl.at 0 rfl) ?_
  refine lv_iload hx hb dX5_readClause_121 (hl.at 2 rfl) ?_
  obtain ⟨u123, r123, hf⟩ := ob hf
  obtain ⟨v123, e123, hf⟩ := ob hf
  refine rw_callVr (As := [.int l4]) X dX5_readClause_123 clX5_119 pyX4_scopeOf (mX4_scopeOf l e123) (by decide) r123 rfl hP rfl (catL (c1c (cr _) c1n) (Nat.le_of_ble_eq_true rfl)) hl.1.1 (fun H locs hP => ?_)
  obtain ⟨S126, e126, hf⟩ := ob hf
  refine rw_putR X dX5_readClause_126 fl5_123 fw1_4 e126 rfl hP (fun H locs hP => ?_)
  refine lv_iconst (v := 1) hx hb dX5_readClause_129 (by decide) ?_
  cases hf
  exact rw_zret X (by first | exact Or.inl rfl | exact Or.inr rfl) dX5_readClause_130 hP
def fX5_readClause_23 (Y : LY) (S : HS) (l0 : Option Nat) (l1 : Option Nat) (l2 : Option Nat) (l3 : Nat) (l4 : Int32) (s0 : Int32) : Option (HS × Int32) :=
  if s0 < 0 then
    some (S, 0)
  else
    if s0 < (sLen l3) then
      (gI Y 5 502 l0 S).bind fun v43 =>
      (pI Y 5 502 l0 (v43 + 1) S).bind fun S48 =>
      (rcv Y 5 l0).bind fun _ =>
      (fX5_readDigit Y S48 l0 0 9).bind fun q55 =>
      if 0 ≤ q55.2 then
        (rcv Y 5 l0).bind fun _ =>
        (fX5_readDigit Y q55.1 l0 0 9).bind fun q71 =>
        (pZ Y 1 100 l2 1 q71.1).bind fun S78 =>
        (pI Y 1 101 l2 l4 S78).bind fun S84 =>
        (sCh l3 s0).bind fun v91 =>
        (pC Y 1 102 l2 v91 S84).bind fun S94 =>
        if 0 ≤ q71.2 then
          fX5_readClause_116 Y S94 l1 l2 l4 l2 ((10 * q55.2) + q71.2)
        else
          fX5_readClause_116 Y S94 l1 l2 l4 l2 q55.2
      else
        some (q55.1, 0)
    else
      some (S, 0)
set_option maxRecDepth 100000 in
set_option maxHeartbeats 4000000 in
theorem wX5_readClause_23 {p : Program} {l : Launch} {e : Env} {R : Room} {s : State} {m : MethodId} {args : Array Value} {below : List Frame} {meth : Method} {c : Code} {G : GG} {Y : LY} {res : HS × Int32} (X : Cx p R s m args meth c RX5 cX5_readClause 8 9 422 (fun q => q ∈ Y.1) G (some .boolean)) : ∀ (S : HS) (l0 : Option Nat) (l1 : Option Nat) (l2 : Option Nat) (l3 : Nat) (l4 : Int32) (s0 : Int32) (hl3 : l3 < 3), fX5_readClause_23 Y S l0 l1 l2 l3 l4 s0 = some res → ∀ (H : Heap) (locs : List Loc) (ls : Array Slot), HP (fun q => q ∈ Y.1) G Y s S H locs → LV ls 8 [(0, va_rf l0), (1, va_rf l1), (2, va_rf l2), (3, .ref (G.2.2.1 l3)), (4, .int l4)] → W p l e R s m args below meth c H locs 0 0 (MQ below (QI G Y res.1 (some (.int res.2))) args s 0 0 (fun q => q ∈ Y.1)) (F0 m 23 ls (.int s0 :: [])) := by
  have hx := X.1.1
  have hb := X.1.2.1
  intro S l0 l1 l2 l3 l4 s0 hl3 hf H locs ls hP hl
  unfold fX5_readClause_23 at hf
  refine rv_istore X dX5_readClause_23 hl (by decide) rfl (fun ls hl => ?_)
  have hl : LV ls 8 [(5, .int s0), (0, va_rf l0), (1, va_rf l1), (2, va_rf l2), (3, .ref (G.2.2.1 l3)), (4, .int l4)] := hl
  refine lv_iload hx hb dX5_readClause_25 (hl.at 0 rfl) ?_
  refine lv_if_lt hx hb (tgt := 39) dX5_readClause_27 (by decide) (fun c27 => ?_) (fun c27 => ?_)
  · have hf := ifp hf c27
    refine lv_iconst (v := 0) hx hb dX5_readClause_39 (by decide) ?_
    cases hf
    exact rw_zret X (by first | exact Or.inl rfl | exact Or.inr rfl) dX5_readClause_40 hP
  · have hf := ifn hf c27
    refine lv_iload hx hb dX5_readClause_30 (hl.at 0 rfl) ?_
    refine lv_aload_n hx hb dX5_readClause_32 rfl (hl.at 4 rfl) ?_
    refine rs_len X clX5_96 (i := l3) (by first | decide | assumption) (by decide) (catL (c1c (ci _) c1n) (Nat.le_of_ble_eq_true rfl)) hl.1.1 dX5_readClause_33 hP (fun H locs hP => ?_)
    refine lv_icmp_lt hx hb (tgt := 41) dX5_readClause_36 (by decide) (fun c36 => ?_) (fun c36 => ?_)
    · have hf := ifp hf c36
      refine rw_aload_n X dX5_readClause_41 rfl (hl.at 1 rfl) ?_
      refine lv_dup hx hb dX5_readClause_42 (cr _) ?_
      obtain ⟨v43, e43, hf⟩ := ob hf
      refine rw_getI X dX5_readClause_43 fl5_9 e43 rfl hP ?_
      refine lv_iconst (v := 1) hx hb dX5_readClause_46 (by decide) ?_
      refine lv_iadd hx hb dX5_readClause_47 ?_
      obtain ⟨S48, e48, hf⟩ := ob hf
      refine rw_putI X dX5_readClause_48 fl5_9 fw5_2 e48 rfl hP (fun H locs hP => ?_)
      refine rw_aload_n X dX5_readClause_51 rfl (hl.at 1 rfl) ?_
      refine lv_iconst (v := 0) hx hb dX5_readClause_52 (by decide) ?_
      refine lv_bipush (v := 9) hx hb dX5_readClause_53 (by decide) ?_
      obtain ⟨u55, r55, hf⟩ := ob hf
      obtain ⟨q55, e55, hf⟩ := ob hf
      refine rw_callVi (As := [.int 0, .int 9]) X dX5_readClause_55 clX5_82 pyX5_readDigit (mX5_readDigit l e55) (by decide) r55 rfl hP rfl (catL c1n (Nat.le_of_ble_eq_true rfl)) hl.1.1 (fun H locs hP => ?_)
      refine rv_istore X dX5_readClause_58 hl (by decide) rfl (fun ls hl => ?_)
      have hl : LV ls 8 [(6, .int q55.2), (5, .int s0), (0, va_rf l0), (1, va_rf l1), (2, va_rf l2), (3, .ref (G.2.2.1 l3)), (4, .int l4)] := hl
      refine lv_iload hx hb dX5_readClause_60 (hl.at 0 rfl) ?_
      refine lv_if_ge hx hb (tgt := 67) dX5_readClause_62 (by decide) (fun c62 => ?_) (fun c62 => ?_)
      · have hf := ifp hf c62
        refine rw_aload_n X dX5_readClause_67 rfl (hl.at 2 rfl) ?_
        refine lv_iconst (v := 0) hx hb dX5_readClause_68 (by decide) ?_
        refine lv_bipush (v := 9) hx hb dX5_readClause_69 (by decide) ?_
        obtain ⟨u71, r71, hf⟩ := ob hf
        obtain ⟨q71, e71, hf⟩ := ob hf
        refine rw_callVi (As := [.int 0, .int 9]) X dX5_readClause_71 clX5_82 pyX5_readDigit (mX5_readDigit l e71) (by decide) r71 rfl hP rfl (catL c1n (Nat.le_of_ble_eq_true rfl)) hl.1.1 (fun H locs hP => ?_)
        refine rv_istore X dX5_readClause_74 hl (by decide) rfl (fun ls hl => ?_)
        have hl : LV ls 8 [(7, .int q71.2), (6, .int q55.2), (5, .int s0), (0, va_rf l0), (1, va_rf l1), (2, va_rf l2), (3, .ref (G.2.2.1 l3)), (4, .int l4)] := hl
        refine rw_aload_n X dX5_readClause_76 rfl (hl.at 5 rfl) ?_
        refine lv_iconst (v := 1) hx hb dX5_readClause_77 (by decide) ?_
        obtain ⟨S78, e78, hf⟩ := ob hf
        refine rw_putZ X dX5_readClause_78 fl5_101 fw1_0 e78 rfl hP (fun H locs hP => ?_)
        refine rw_aload_n X dX5_readClause_81 rfl (hl.at 5 rfl) ?_
        refine lv_iload hx hb dX5_readClause_82 (hl.at 7 rfl) ?_
        obtain ⟨S84, e84, hf⟩ := ob hf
        refine rw_putI X dX5_readClause_84 fl5_107 fw1_1 e84 rfl hP (fun H locs hP => ?_)
        refine rw_aload_n X dX5_readClause_87 rfl (hl.at 5 rfl) ?_
        refine lv_aload_n hx hb dX5_readClause_88 rfl (hl.at 6 rfl) ?_
        refine lv_iload hx hb dX5_readClause_89 (hl.at 2 rfl) ?_
        obtain ⟨v91, e91, hf⟩ := ob hf
        refine rs_ch X clX5_110 e91 (by decide) (catL (c1c (cr _) c1n) (Nat.le_of_ble_eq_true rfl)) hl.1.1 dX5_readClause_91 hP (fun H locs hP => ?_)
        obtain ⟨S94, e94, hf⟩ := ob hf
        refine rw_putC X dX5_readClause_94 fl5_114 fw1_2 e94 rfl hP (fun H locs hP => ?_)
        refine rw_aload_n X dX5_readClause_97 rfl (hl.at 5 rfl) ?_
        refine lv_iload hx hb dX5_readClause_98 (hl.at 0 rfl) ?_
        refine lv_if_ge hx hb (tgt := 108) dX5_readClause_100 (by decide) (fun c100 => ?_) (fun c100 => ?_)
        · have hf := ifp hf c100
          refine lv_bipush (v := 10) hx hb dX5_readClause_108 (by decide) ?_
          refine lv_iload hx hb dX5_readClause_110 (hl.at 1 rfl) ?_
          refine lv_imul hx hb dX5_readClause_112 ?_
          refine lv_iload hx hb dX5_readClause_113 (hl.at 0 rfl) ?_
          refine lv_iadd hx hb dX5_readClause_115 ?_
          exact wX5_readClause_116 X S94 l1 l2 l4 l2 ((10 * q55.2) + q71.2) hf _ _ _ hP (hl.sub [4, 5, 7] rfl)
        · have hf := ifn hf c100
          refine lv_iload hx hb dX5_readClause_103 (hl.at 1 rfl) ?_
          refine lv_goto (tgt := 116) hx hb dX5_readClause_105 (by decide) ?_
          exact wX5_readClause_116 X S94 l1 l2 l4 l2 q55.2 hf _ _ _ hP (hl.sub [4, 5, 7] rfl)
      · have hf := ifn hf c62
        refine lv_iconst (v := 0) hx hb dX5_readClause_65 (by decide) ?_
        cases hf
        exact rw_zret X (by first | exact Or.inl rfl | exact Or.inr rfl) dX5_readClause_66 hP
    · have hf := ifn hf c36
      refine lv_iconst (v := 0) hx hb dX5_readClause_39 (by decide) ?_
      cases hf
      exact rw_zret X (by first | exact Or.inl rfl | exact Or.inr rfl) dX5_readClause_40 hP
def fX5_readClause (Y : LY) (S : HS) (l0 : Option Nat) (l1 : Option Nat) (l2 : Option Nat) (l3 : Nat) : Option (HS × Int32) :=
  (rcv Y 5 l0).bind fun _ =>
  (fX5_readDigit Y S l0 0 7).bind fun q4 =>
  if 0 ≤ q4.2 then
    (rcv Y 5 l0).bind fun _ =>
    (fX5_placeIn Y q4.1 l0 l3).bind fun v20 =>
    fX5_readClause_23 Y q4.1 l0 l1 l2 l3 q4.2 v20
  else
    fX5_readClause_23 Y q4.1 l0 l1 l2 l3 q4.2 (-1)
set_option maxRecDepth 100000 in
set_option maxHeartbeats 4000000 in
theorem mX5_readClause (l : Launch) {G : GG} {Y : LY} {S : HS} {l0 : Option Nat} {l1 : Option Nat} {l2 : Option Nat} {l3 : Nat} {res : HS × Int32} (hf : fX5_readClause Y S l0 l1 l2 l3 = some res) (hl3 : l3 < 3) : MM l yX5_readClause cX5_readClause 8 (some .boolean) 9 422 G Y S [va_rf l0, va_rf l1, va_rf l2, .ref (G.2.2.1 l3)] res.1 (some (.int res.2)) := by
  refine mm_of2 (plainFor_of_name (by decide +kernel)) (Nat.le_of_ble_eq_true rfl) (c1c (cr _) (c1c (cr _) (c1c (cr _) (c1c (ca _) c1n)))) ?_
  intro p e R s m args below meth c X H locs ls hP hl
  have X : Cx p R s m args meth c RX5 cX5_readClause 8 9 422 (fun q => q ∈ Y.1) G (some .boolean) := X
  have hx := X.1.1
  have hb := X.1.2.1
  have hl : LV ls 8 [(0, va_rf l0), (1, va_rf l1), (2, va_rf l2), (3, .ref (G.2.2.1 l3))] := hl
  unfold fX5_readClause at hf
  refine rw_aload_n X dX5_readClause_0 rfl (hl.at 0 rfl) ?_
  refine lv_iconst (v := 0) hx hb dX5_readClause_1 (by decide) ?_
  refine lv_bipush (v := 7) hx hb dX5_readClause_2 (by decide) ?_
  obtain ⟨u4, r4, hf⟩ := ob hf
  obtain ⟨q4, e4, hf⟩ := ob hf
  refine rw_callVi (As := [.int 0, .int 7]) X dX5_readClause_4 clX5_82 pyX5_readDigit (mX5_readDigit l e4) (by decide) r4 rfl hP rfl (catL c1n (Nat.le_of_ble_eq_true rfl)) hl.1.1 (fun H locs hP => ?_)
  refine rv_istore X dX5_readClause_7 hl (by decide) rfl (fun ls hl => ?_)
  have hl : LV ls 8 [(4, .int q4.2), (0, va_rf l0), (1, va_rf l1), (2, va_rf l2), (3, .ref (G.2.2.1 l3))] := hl
  refine lv_iload hx hb dX5_readClause_9 (hl.at 0 rfl) ?_
  refine lv_if_ge hx hb (tgt := 18) dX5_readClause_11 (by decide) (fun c11 => ?_) (fun c11 => ?_)
  · have hf := ifp hf c11
    refine rw_aload_n X dX5_readClause_18 rfl (hl.at 1 rfl) ?_
    refine lv_aload_n hx hb dX5_readClause_19 rfl (hl.at 4 rfl) ?_
    obtain ⟨u20, r20, hf⟩ := ob hf
    obtain ⟨v20, e20, hf⟩ := ob hf
    refine rw_callVi (As := [.ref (G.2.2.1 l3)]) X dX5_readClause_20 clX5_39 pyX5_placeIn (mX5_placeIn l e20 (by first | decide | assumption)) (by decide) r20 rfl hP rfl (catL c1n (Nat.le_of_ble_eq_true rfl)) hl.1.1 (fun H locs hP => ?_)
    exact wX5_readClause_23 X q4.1 l0 l1 l2 l3 q4.2 v20 (by first | decide | assumption) hf _ _ _ hP (hl.sub [1, 2, 3, 4, 0] rfl)
  · have hf := ifn hf c11
    refine lv_iconst (v := (-1)) hx hb dX5_readClause_14 (by decide) ?_
    refine lv_goto (tgt := 23) hx hb dX5_readClause_15 (by decide) ?_
    exact wX5_readClause_23 X q4.1 l0 l1 l2 l3 q4.2 (-1) (by first | decide | assumption) hf _ _ _ hP (hl.sub [1, 2, 3, 4, 0] rfl)
theorem dX5_skip_0 : decode cX5_skip 0 = .ok (.aload_n 0, 1) := by decide +kernel
theorem dX5_skip_1 : decode cX5_skip 1 = .ok (.getfield 15, 3) := by decide +kernel
theorem dX5_skip_4 : decode cX5_skip 4 = .ok (.aload_n 0, 1) := by decide +kernel
theorem dX5_skip_5 : decode cX5_skip 5 = .ok (.getfield 9, 3) := by decide +kernel
theorem dX5_skip_8 : decode cX5_skip 8 = .ok (.invokevirtual 89, 3) := by decide +kernel
theorem dX5_skip_11 : decode cX5_skip 11 = .ok (.iload_n 1, 1) := by decide +kernel
theorem dX5_skip_12 : decode cX5_skip 12 = .ok (.if_icmp .eq 5, 3) := by decide +kernel
theorem dX5_skip_15 : decode cX5_skip 15 = .ok (.iconst 0, 1) := by decide +kernel
theorem dX5_skip_16 : decode cX5_skip 16 = .ok (.ireturn, 1) := by decide +kernel
theorem dX5_skip_17 : decode cX5_skip 17 = .ok (.aload_n 0, 1) := by decide +kernel
theorem dX5_skip_18 : decode cX5_skip 18 = .ok (.dup, 1) := by decide +kernel
theorem dX5_skip_19 : decode cX5_skip 19 = .ok (.getfield 9, 3) := by decide +kernel
theorem dX5_skip_22 : decode cX5_skip 22 = .ok (.iconst 1, 1) := by decide +kernel
theorem dX5_skip_23 : decode cX5_skip 23 = .ok (.iadd, 1) := by decide +kernel
theorem dX5_skip_24 : decode cX5_skip 24 = .ok (.putfield 9, 3) := by decide +kernel
theorem dX5_skip_27 : decode cX5_skip 27 = .ok (.iconst 1, 1) := by decide +kernel
theorem dX5_skip_28 : decode cX5_skip 28 = .ok (.ireturn, 1) := by decide +kernel
theorem pyX5_skip : PY yX5_skip 1 := ⟨by decide +kernel, by decide +kernel, by decide +kernel⟩
def fX5_skip (Y : LY) (S : HS) (l0 : Option Nat) (l1 : Int32) : Option (HS × Int32) :=
  (gR Y 5 500 l0 S).bind fun v1 =>
  (gI Y 5 502 l0 S).bind fun v5 =>
  (rcv Y 7 v1).bind fun _ =>
  (fX7_codeAt Y S v1 v5).bind fun v8 =>
  if v8 = l1 then
    (gI Y 5 502 l0 S).bind fun v19 =>
    (pI Y 5 502 l0 (v19 + 1) S).bind fun S24 =>
    some (S24, 1)
  else
    some (S, 0)
set_option maxRecDepth 100000 in
set_option maxHeartbeats 4000000 in
theorem mX5_skip (l : Launch) {G : GG} {Y : LY} {S : HS} {l0 : Option Nat} {l1 : Int32} {res : HS × Int32} (hf : fX5_skip Y S l0 l1 = some res) : MM l yX5_skip cX5_skip 2 (some .boolean) 1 21 G Y S [va_rf l0, .int l1] res.1 (some (.int res.2)) := by
  refine mm_of2 (plainFor_of_name (by decide +kernel)) (Nat.le_of_ble_eq_true rfl) (c1c (cr _) (c1c (ci _) c1n)) ?_
  intro p e R s m args below meth c X H locs ls hP hl
  have X : Cx p R s m args meth c RX5 cX5_skip 2 1 21 (fun q => q ∈ Y.1) G (some .boolean) := X
  have hx := X.1.1
  have hb := X.1.2.1
  have hl : LV ls 2 [(0, va_rf l0), (1, .int l1)] := hl
  unfold fX5_skip at hf
  refine rw_aload_n X dX5_skip_0 rfl (hl.at 0 rfl) ?_
  obtain ⟨v1, e1, hf⟩ := ob hf
  refine rw_getR X dX5_skip_1 fl5_15 e1 rfl hP ?_
  refine rw_aload_n X dX5_skip_4 rfl (hl.at 0 rfl) ?_
  obtain ⟨v5, e5, hf⟩ := ob hf
  refine rw_getI X dX5_skip_5 fl5_9 e5 rfl hP ?_
  obtain ⟨u8, r8, hf⟩ := ob hf
  obtain ⟨v8, e8, hf⟩ := ob hf
  refine rw_callVi (As := [.int v5]) X dX5_skip_8 clX5_89 pyX7_codeAt (mX7_codeAt l e8) (by decide) r8 rfl hP rfl (catL c1n (Nat.le_of_ble_eq_true rfl)) hl.1.1 (fun H locs hP => ?_)
  refine lv_iload_n hx hb dX5_skip_11 rfl (hl.at 1 rfl) ?_
  refine lv_icmp_eq hx hb (tgt := 17) dX5_skip_12 (by decide) (fun c12 => ?_) (fun c12 => ?_)
  · have hf := ifp hf c12
    refine rw_aload_n X dX5_skip_17 rfl (hl.at 0 rfl) ?_
    refine lv_dup hx hb dX5_skip_18 (cr _) ?_
    obtain ⟨v19, e19, hf⟩ := ob hf
    refine rw_getI X dX5_skip_19 fl5_9 e19 rfl hP ?_
    refine lv_iconst (v := 1) hx hb dX5_skip_22 (by decide) ?_
    refine lv_iadd hx hb dX5_skip_23 ?_
    obtain ⟨S24, e24, hf⟩ := ob hf
    refine rw_putI X dX5_skip_24 fl5_9 fw5_2 e24 rfl hP (fun H locs hP => ?_)
    refine lv_iconst (v := 1) hx hb dX5_skip_27 (by decide) ?_
    cases hf
    exact rw_zret X (by first | exact Or.inl rfl | exact Or.inr rfl) dX5_skip_28 hP
  · have hf := ifn hf c12
    refine lv_iconst (v := 0) hx hb dX5_skip_15 (by decide) ?_
    cases hf
    exact rw_zret X (by first | exact Or.inl rfl | exact Or.inr rfl) dX5_skip_16 hP
theorem dX5_readEffects_0 : decode cX5_readEffects 0 = .ok (.aload_n 0, 1) := by decide +kernel
theorem dX5_readEffects_1 : decode cX5_readEffects 1 = .ok (.getfield 15, 3) := by decide +kernel
theorem dX5_readEffects_4 : decode cX5_readEffects 4 = .ok (.aload_n 0, 1) := by decide +kernel
theorem dX5_readEffects_5 : decode cX5_readEffects 5 = .ok (.getfield 9, 3) := by decide +kernel
theorem dX5_readEffects_8 : decode cX5_readEffects 8 = .ok (.invokevirtual 89, 3) := by decide +kernel
theorem dX5_readEffects_11 : decode cX5_readEffects 11 = .ok (.istore_n 2, 1) := by decide +kernel
theorem dX5_readEffects_12 : decode cX5_readEffects 12 = .ok (.iload_n 2, 1) := by decide +kernel
theorem dX5_readEffects_13 : decode cX5_readEffects 13 = .ok (.bipush 48, 2) := by decide +kernel
theorem dX5_readEffects_15 : decode cX5_readEffects 15 = .ok (.if_icmp .lt 25, 3) := by decide +kernel
theorem dX5_readEffects_18 : decode cX5_readEffects 18 = .ok (.iload_n 2, 1) := by decide +kernel
theorem dX5_readEffects_19 : decode cX5_readEffects 19 = .ok (.bipush 57, 2) := by decide +kernel
theorem dX5_readEffects_21 : decode cX5_readEffects 21 = .ok (.if_icmp .gt 19, 3) := by decide +kernel
theorem dX5_readEffects_24 : decode cX5_readEffects 24 = .ok (.aload_n 0, 1) := by decide +kernel
theorem dX5_readEffects_25 : decode cX5_readEffects 25 = .ok (.aload_n 1, 1) := by decide +kernel
theorem dX5_readEffects_26 : decode cX5_readEffects 26 = .ok (.aload_n 1, 1) := by decide +kernel
theorem dX5_readEffects_27 : decode cX5_readEffects 27 = .ok (.getfield 63, 3) := by decide +kernel
theorem dX5_readEffects_30 : decode cX5_readEffects 30 = .ok (.ldc 73, 2) := by decide +kernel
theorem dX5_readEffects_32 : decode cX5_readEffects 32 = .ok (.invokevirtual 69, 3) := by decide +kernel
theorem dX5_readEffects_35 : decode cX5_readEffects 35 = .ok (.ifCond .ne 5, 3) := by decide +kernel
theorem dX5_readEffects_38 : decode cX5_readEffects 38 = .ok (.iconst 0, 1) := by decide +kernel
theorem dX5_readEffects_39 : decode cX5_readEffects 39 = .ok (.ireturn, 1) := by decide +kernel
theorem dX5_readEffects_40 : decode cX5_readEffects 40 = .ok (.aload_n 0, 1) := by decide +kernel
theorem dX5_readEffects_41 : decode cX5_readEffects 41 = .ok (.bipush 126, 2) := by decide +kernel
theorem dX5_readEffects_43 : decode cX5_readEffects 43 = .ok (.invokevirtual 78, 3) := by decide +kernel
theorem dX5_readEffects_46 : decode cX5_readEffects 46 = .ok (.ifCond .eq 17, 3) := by decide +kernel
theorem dX5_readEffects_49 : decode cX5_readEffects 49 = .ok (.aload_n 0, 1) := by decide +kernel
theorem dX5_readEffects_50 : decode cX5_readEffects 50 = .ok (.aload_n 1, 1) := by decide +kernel
theorem dX5_readEffects_51 : decode cX5_readEffects 51 = .ok (.aload_n 1, 1) := by decide +kernel
theorem dX5_readEffects_52 : decode cX5_readEffects 52 = .ok (.getfield 93, 3) := by decide +kernel
theorem dX5_readEffects_55 : decode cX5_readEffects 55 = .ok (.ldc 73, 2) := by decide +kernel
theorem dX5_readEffects_57 : decode cX5_readEffects 57 = .ok (.invokevirtual 69, 3) := by decide +kernel
theorem dX5_readEffects_60 : decode cX5_readEffects 60 = .ok (.ifCond .eq 7, 3) := by decide +kernel
theorem dX5_readEffects_63 : decode cX5_readEffects 63 = .ok (.iconst 1, 1) := by decide +kernel
theorem dX5_readEffects_64 : decode cX5_readEffects 64 = .ok (.goto 4, 3) := by decide +kernel
theorem dX5_readEffects_67 : decode cX5_readEffects 67 = .ok (.iconst 0, 1) := by decide +kernel
theorem dX5_readEffects_68 : decode cX5_readEffects 68 = .ok (.ireturn, 1) := by decide +kernel
theorem pyX5_readEffects : PY yX5_readEffects 1 := ⟨by decide +kernel, by decide +kernel, by decide +kernel⟩
def fX5_readEffects_40 (Y : LY) (S : HS) (l0 : Option Nat) (l1 : Option Nat) : Option (HS × Int32) :=
  (rcv Y 5 l0).bind fun _ =>
  (fX5_skip Y S l0 126).bind fun q43 =>
  if q43.2 = 0 then
    some (q43.1, 1)
  else
    (gR Y 4 402 l1 q43.1).bind fun v52 =>
    (rcv Y 5 l0).bind fun _ =>
    (fX5_readClause Y q43.1 l0 l1 v52 2).bind fun q57 =>
    if q57.2 = 0 then
      some (q57.1, 0)
    else
      some (q57.1, 1)
set_option maxRecDepth 100000 in
set_option maxHeartbeats 4000000 in
theorem wX5_readEffects_40 {p : Program} {l : Launch} {e : Env} {R : Room} {s : State} {m : MethodId} {args : Array Value} {below : List Frame} {meth : Method} {c : Code} {G : GG} {Y : LY} {res : HS × Int32} (X : Cx p R s m args meth c RX5 cX5_readEffects 3 10 449 (fun q => q ∈ Y.1) G (some .boolean)) : ∀ (S : HS) (l0 : Option Nat) (l1 : Option Nat), fX5_readEffects_40 Y S l0 l1 = some res → ∀ (H : Heap) (locs : List Loc) (ls : Array Slot), HP (fun q => q ∈ Y.1) G Y s S H locs → LV ls 3 [(0, va_rf l0), (1, va_rf l1)] → W p l e R s m args below meth c H locs 0 0 (MQ below (QI G Y res.1 (some (.int res.2))) args s 0 0 (fun q => q ∈ Y.1)) (F0 m 40 ls []) := by
  have hx := X.1.1
  have hb := X.1.2.1
  intro S l0 l1 hf H locs ls hP hl
  unfold fX5_readEffects_40 at hf
  refine rw_aload_n X dX5_readEffects_40 rfl (hl.at 0 rfl) ?_
  refine lv_bipush (v := 126) hx hb dX5_readEffects_41 (by decide) ?_
  obtain ⟨u43, r43, hf⟩ := ob hf
  obtain ⟨q43, e43, hf⟩ := ob hf
  refine rw_callVi (As := [.int 126]) X dX5_readEffects_43 clX5_78 pyX5_skip (mX5_skip l e43) (by decide) r43 rfl hP rfl (catL c1n (Nat.le_of_ble_eq_true rfl)) hl.1.1 (fun H locs hP => ?_)
  refine lv_if_eq hx hb (tgt := 63) dX5_readEffects_46 (by decide) (fun c46 => ?_) (fun c46 => ?_)
  · have hf := ifp hf c46
    refine lv_iconst (v := 1) hx hb dX5_readEffects_63 (by decide) ?_
    refine lv_goto (tgt := 68) hx hb dX5_readEffects_64 (by decide) ?_
    cases hf
    exact rw_zret X (by first | exact Or.inl rfl | exact Or.inr rfl) dX5_readEffects_68 hP
  · have hf := ifn hf c46
    refine rw_aload_n X dX5_readEffects_49 rfl (hl.at 0 rfl) ?_
    refine rw_aload_n X dX5_readEffects_50 rfl (hl.at 1 rfl) ?_
    refine rw_aload_n X dX5_readEffects_51 rfl (hl.at 1 rfl) ?_
    obtain ⟨v52, e52, hf⟩ := ob hf
    refine rw_getR X dX5_readEffects_52 fl5_93 e52 rfl hP ?_
    refine va_ldcS hx hb X.1.2.2.2.1 X.2.2.1.2.2.2.2.1 dX5_readEffects_55 ?_
    obtain ⟨u57, r57, hf⟩ := ob hf
    obtain ⟨q57, e57, hf⟩ := ob hf
    refine rw_callVi (As := [va_rf l1, va_rf v52, .ref (G.2.2.1 2)]) X dX5_readEffects_57 clX5_69 pyX5_readClause (mX5_readClause l e57 (by first | decide | assumption)) (by decide) r57 rfl hP rfl (catL c1n (Nat.le_of_ble_eq_true rfl)) hl.1.1 (fun H locs hP => ?_)
    refine lv_if_eq hx hb (tgt := 67) dX5_readEffects_60 (by decide) (fun c60 => ?_) (fun c60 => ?_)
    · have hf := ifp hf c60
      refine lv_iconst (v := 0) hx hb dX5_readEffects_67 (by decide) ?_
      cases hf
      exact rw_zret X (by first | exact Or.inl rfl | exact Or.inr rfl) dX5_readEffects_68 hP
    · have hf := ifn hf c60
      refine lv_iconst (v := 1) hx hb dX5_readEffects_63 (by decide) ?_
      refine lv_goto (tgt := 68) hx hb dX5_readEffects_64 (by decide) ?_
      cases hf
      exact rw_zret X (by first | exact Or.inl rfl | exact Or.inr rfl) dX5_readEffects_68 hP
def fX5_readEffects (Y : LY) (S : HS) (l0 : Option Nat) (l1 : Option Nat) : Option (HS × Int32) :=
  (gR Y 5 500 l0 S).bind fun v1 =>
  (gI Y 5 502 l0 S).bind fun v5 =>
  (rcv Y 7 v1).bind fun _ =>
  (fX7_codeAt Y S v1 v5).bind fun v8 =>
  if v8 < 48 then
    fX5_readEffects_40 Y S l0 l1
  else
    if 57 < v8 then
      fX5_readEffects_40 Y S l0 l1
    else
      (gR Y 4 401 l1 S).bind fun v27 =>
      (rcv Y 5 l0).bind fun _ =>
      (fX5_readClause Y S l0 l1 v27 2).bind fun q32 =>
      if q32.2 = 0 then
        some (q32.1, 0)
      else
        fX5_readEffects_40 Y q32.1 l0 l1
set_option maxRecDepth 100000 in
set_option maxHeartbeats 4000000 in
theorem mX5_readEffects (l : Launch) {G : GG} {Y : LY} {S : HS} {l0 : Option Nat} {l1 : Option Nat} {res : HS × Int32} (hf : fX5_readEffects Y S l0 l1 = some res) : MM l yX5_readEffects cX5_readEffects 3 (some .boolean) 10 449 G Y S [va_rf l0, va_rf l1] res.1 (some (.int res.2)) := by
  refine mm_of2 (plainFor_of_name (by decide +kernel)) (Nat.le_of_ble_eq_true rfl) (c1c (cr _) (c1c (cr _) c1n)) ?_
  intro p e R s m args below meth c X H locs ls hP hl
  have X : Cx p R s m args meth c RX5 cX5_readEffects 3 10 449 (fun q => q ∈ Y.1) G (some .boolean) := X
  have hx := X.1.1
  have hb := X.1.2.1
  have hl : LV ls 3 [(0, va_rf l0), (1, va_rf l1)] := hl
  unfold fX5_readEffects at hf
  refine rw_aload_n X dX5_readEffects_0 rfl (hl.at 0 rfl) ?_
  obtain ⟨v1, e1, hf⟩ := ob hf
  refine rw_getR X dX5_readEffects_1 fl5_15 e1 rfl hP ?_
  refine rw_aload_n X dX5_readEffects_4 rfl (hl.at 0 rfl) ?_
  obtain ⟨v5, e5, hf⟩ := ob hf
  refine rw_getI X dX5_readEffects_5 fl5_9 e5 rfl hP ?_
  obtain ⟨u8, r8, hf⟩ := ob hf
  obtain ⟨v8, e8, hf⟩ := ob hf
  refine rw_callVi (As := [.int v5]) X dX5_readEffects_8 clX5_89 pyX7_codeAt (mX7_codeAt l e8) (by decide) r8 rfl hP rfl (catL c1n (Nat.le_of_ble_eq_true rfl)) hl.1.1 (fun H locs hP => ?_)
  refine rv_istore_n X dX5_readEffects_11 rfl hl (by decide) rfl (fun ls hl => ?_)
  have hl : LV ls 3 [(2, .int v8), (0, va_rf l0), (1, va_rf l1)] := hl
  refine lv_iload_n hx hb dX5_readEffects_12 rfl (hl.at 0 rfl) ?_
  refine lv_bipush (v := 48) hx hb dX5_readEffects_13 (by decide) ?_
  refine lv_icmp_lt hx hb (tgt := 40) dX5_readEffects_15 (by decide) (fun c15 => ?_) (fun c15 => ?_)
  · have hf := ifp hf c15
    exact wX5_readEffects_40 X S l0 l1 hf _ _ _ hP (hl.sub [1, 2] rfl)
  · have hf := ifn hf c15
    refine lv_iload_n hx hb dX5_readEffects_18 rfl (hl.at 0 rfl) ?_
    refine lv_bipush (v := 57) hx hb dX5_readEffects_19 (by decide) ?_
    refine lv_icmp_gt hx hb (tgt := 40) dX5_readEffects_21 (by decide) (fun c21 => ?_) (fun c21 => ?_)
    · have hf := ifp hf c21
      exact wX5_readEffects_40 X S l0 l1 hf _ _ _ hP (hl.sub [1, 2] rfl)
    · have hf := ifn hf c21
      refine rw_aload_n X dX5_readEffects_24 rfl (hl.at 1 rfl) ?_
      refine rw_aload_n X dX5_readEffects_25 rfl (hl.at 2 rfl) ?_
      refine rw_aload_n X dX5_readEffects_26 rfl (hl.at 2 rfl) ?_
      obtain ⟨v27, e27, hf⟩ := ob hf
      refine rw_getR X dX5_readEffects_27 fl5_63 e27 rfl hP ?_
      refine va_ldcS hx hb X.1.2.2.2.1 X.2.2.1.2.2.2.2.1 dX5_readEffects_30 ?_
      obtain ⟨u32, r32, hf⟩ := ob hf
      obtain ⟨q32, e32, hf⟩ := ob hf
      refine rw_callVi (As := [va_rf l1, va_rf v27, .ref (G.2.2.1 2)]) X dX5_readEffects_32 clX5_69 pyX5_readClause (mX5_readClause l e32 (by first | decide | assumption)) (by decide) r32 rfl hP rfl (catL c1n (Nat.le_of_ble_eq_true rfl)) hl.1.1 (fun H locs hP => ?_)
      refine lv_if_ne hx hb (tgt := 40) dX5_readEffects_35 (by decide) (fun c35 => ?_) (fun c35 => ?_)
      · have hf := ifn hf c35
        exact wX5_readEffects_40 X q32.1 l0 l1 hf _ _ _ hP (hl.sub [1, 2] rfl)
      · have hf := ifp hf c35
        refine lv_iconst (v := 0) hx hb dX5_readEffects_38 (by decide) ?_
        cases hf
        exact rw_zret X (by first | exact Or.inl rfl | exact Or.inr rfl) dX5_readEffects_39 hP
theorem dX5_readList_0 : decode cX5_readList 0 = .ok (.aload_n 0, 1) := by decide +kernel
theorem dX5_readList_1 : decode cX5_readList 1 = .ok (.bipush 40, 2) := by decide +kernel
theorem dX5_readList_3 : decode cX5_readList 3 = .ok (.invokevirtual 78, 3) := by decide +kernel
theorem dX5_readList_6 : decode cX5_readList 6 = .ok (.ifCond .ne 5, 3) := by decide +kernel
theorem dX5_readList_9 : decode cX5_readList 9 = .ok (.iconst 0, 1) := by decide +kernel
theorem dX5_readList_10 : decode cX5_readList 10 = .ok (.ireturn, 1) := by decide +kernel
theorem dX5_readList_11 : decode cX5_readList 11 = .ok (.iconst 0, 1) := by decide +kernel
theorem dX5_readList_12 : decode cX5_readList 12 = .ok (.istore_n 3, 1) := by decide +kernel
theorem dX5_readList_13 : decode cX5_readList 13 = .ok (.iload_n 3, 1) := by decide +kernel
theorem dX5_readList_14 : decode cX5_readList 14 = .ok (.bipush 24, 2) := by decide +kernel
theorem dX5_readList_16 : decode cX5_readList 16 = .ok (.if_icmp .ge 38, 3) := by decide +kernel
theorem dX5_readList_19 : decode cX5_readList 19 = .ok (.aload_n 0, 1) := by decide +kernel
theorem dX5_readList_20 : decode cX5_readList 20 = .ok (.aload_n 1, 1) := by decide +kernel
theorem dX5_readList_21 : decode cX5_readList 21 = .ok (.iload_n 2, 1) := by decide +kernel
theorem dX5_readList_22 : decode cX5_readList 22 = .ok (.iconst 1, 1) := by decide +kernel
theorem dX5_readList_23 : decode cX5_readList 23 = .ok (.iadd, 1) := by decide +kernel
theorem dX5_readList_24 : decode cX5_readList 24 = .ok (.invokevirtual 28, 3) := by decide +kernel
theorem dX5_readList_27 : decode cX5_readList 27 = .ok (.ifCond .ne 5, 3) := by decide +kernel
theorem dX5_readList_30 : decode cX5_readList 30 = .ok (.iconst 0, 1) := by decide +kernel
theorem dX5_readList_31 : decode cX5_readList 31 = .ok (.ireturn, 1) := by decide +kernel
theorem dX5_readList_32 : decode cX5_readList 32 = .ok (.aload_n 0, 1) := by decide +kernel
theorem dX5_readList_33 : decode cX5_readList 33 = .ok (.bipush 44, 2) := by decide +kernel
theorem dX5_readList_35 : decode cX5_readList 35 = .ok (.invokevirtual 78, 3) := by decide +kernel
theorem dX5_readList_38 : decode cX5_readList 38 = .ok (.ifCond .ne 10, 3) := by decide +kernel
theorem dX5_readList_41 : decode cX5_readList 41 = .ok (.aload_n 0, 1) := by decide +kernel
theorem dX5_readList_42 : decode cX5_readList 42 = .ok (.bipush 41, 2) := by decide +kernel
theorem dX5_readList_44 : decode cX5_readList 44 = .ok (.invokevirtual 78, 3) := by decide +kernel
theorem dX5_readList_47 : decode cX5_readList 47 = .ok (.ireturn, 1) := by decide +kernel
theorem dX5_readList_48 : decode cX5_readList 48 = .ok (.iinc 3 1, 3) := by decide +kernel
theorem dX5_readList_51 : decode cX5_readList 51 = .ok (.goto (-38), 3) := by decide +kernel
theorem dX5_readList_54 : decode cX5_readList 54 = .ok (.iconst 0, 1) := by decide +kernel
theorem dX5_readList_55 : decode cX5_readList 55 = .ok (.ireturn, 1) := by decide +kernel
theorem pyX5_readList : PY yX5_readList 2 := ⟨by decide +kernel, by decide +kernel, by decide +kernel⟩
theorem pyX5_readNode : PY yX5_readNode 2 := ⟨by decide +kernel, by decide +kernel, by decide +kernel⟩
def fX5_readList_13 (kN : HS → Option Nat → Option Nat → Int32 → Option (HS × Int32)) (Y : LY) : Nat → HS → Option Nat → Option Nat → Int32 → Int32 → Option (HS × Int32)
  | 0, _, _, _, _, _ => none
  | n + 1, S, l0, l1, l2, l3 =>
    if 24 ≤ l3 then
      some (S, 0)
    else
      (rcv Y 5 l0).bind fun _ =>
      (kN S l0 l1 (l2 + 1)).bind fun q24 =>
      if q24.2 = 0 then
        some (q24.1, 0)
      else
        (rcv Y 5 l0).bind fun _ =>
        (fX5_skip Y q24.1 l0 44).bind fun q35 =>
        if q35.2 = 0 then
          (rcv Y 5 l0).bind fun _ =>
          (fX5_skip Y q35.1 l0 41).bind fun q44 =>
          (zr q44.2).bind fun z47 =>
          some (q44.1, z47)
        else
          fX5_readList_13 kN Y n q35.1 l0 l1 l2 (l3 + 1)
set_option maxRecDepth 100000 in
set_option maxHeartbeats 4000000 in
theorem wX5_readList_13 {p : Program} {l : Launch} {e : Env} {R : Room} {s : State} {m : MethodId} {args : Array Value} {below : List Frame} {meth : Method} {c : Code} {G : GG} {Y : LY} {res : HS × Int32} {kN : HS → Option Nat → Option Nat → Int32 → Option (HS × Int32)} {rfN rlN : Nat} (X : Cx p R s m args meth c RX5 cX5_readList 4 (rfN + 12) (rlN + 600) (fun q => q ∈ Y.1) G (some .boolean)) (hkN : ∀ (S : HS) (a b : Option Nat) (k : Int32) (res : HS × Int32), kN S a b k = some res → MM l yX5_readNode cX5_readNode 5 (some .boolean) rfN rlN G Y S [va_rf a, va_rf b, .int k] res.1 (some (.int res.2))) : ∀ (n : Nat) (S : HS) (l0 : Option Nat) (l1 : Option Nat) (l2 : Int32) (l3 : Int32), fX5_readList_13 kN Y n S l0 l1 l2 l3 = some res → ∀ (H : Heap) (locs : List Loc) (ls : Array Slot), HP (fun q => q ∈ Y.1) G Y s S H locs → LV ls 4 [(0, va_rf l0), (1, va_rf l1), (2, .int l2), (3, .int l3)] → W p l e R s m args below meth c H locs 0 0 (MQ below (QI G Y res.1 (some (.int res.2))) args s 0 0 (fun q => q ∈ Y.1)) (F0 m 13 ls []) := by
  have hx := X.1.1
  have hb := X.1.2.1
  intro n
  induction n with
  | zero =>
    intro S l0 l1 l2 l3 hf
    cases hf
  | succ n ih =>
    intro S l0 l1 l2 l3 hf H locs ls hP hl
    rw [fX5_readList_13] at hf
    refine lv_iload_n hx hb dX5_readList_13 rfl (hl.at 3 rfl) ?_
    refine lv_bipush (v := 24) hx hb dX5_readList_14 (by decide) ?_
    refine lv_icmp_ge hx hb (tgt := 54) dX5_readList_16 (by decide) (fun c16 => ?_) (fun c16 => ?_)
    · have hf := ifp hf c16
      refine lv_iconst (v := 0) hx hb dX5_readList_54 (by decide) ?_
      cases hf
      exact rw_zret X (by first | exact Or.inl rfl | exact Or.inr rfl) dX5_readList_55 hP
    · have hf := ifn hf c16
      refine rw_aload_n X dX5_readList_19 rfl (hl.at 0 rfl) ?_
      refine rw_aload_n X dX5_readList_20 rfl (hl.at 1 rfl) ?_
      refine lv_iload_n hx hb dX5_readList_21 rfl (hl.at 2 rfl) ?_
      refine lv_iconst (v := 1) hx hb dX5_readList_22 (by decide) ?_
      refine lv_iadd hx hb dX5_readList_23 ?_
      obtain ⟨u24, r24, hf⟩ := ob hf
      obtain ⟨q24, e24, hf⟩ := ob hf
      refine rw_callVi (As := [va_rf l1, .int (l2 + 1)]) X dX5_readList_24 clX5_28 pyX5_readNode (hkN _ _ _ _ _ e24) (by omega) r24 rfl hP rfl (catL c1n (Nat.le_of_ble_eq_true rfl)) hl.1.1 (fun H locs hP => ?_)
      refine lv_if_ne hx hb (tgt := 32) dX5_readList_27 (by decide) (fun c27 => ?_) (fun c27 => ?_)
      · have hf := ifn hf c27
        refine rw_aload_n X dX5_readList_32 rfl (hl.at 0 rfl) ?_
        refine lv_bipush (v := 44) hx hb dX5_readList_33 (by decide) ?_
        obtain ⟨u35, r35, hf⟩ := ob hf
        obtain ⟨q35, e35, hf⟩ := ob hf
        refine rw_callVi (As := [.int 44]) X dX5_readList_35 clX5_78 pyX5_skip (mX5_skip l e35) (by omega) r35 rfl hP rfl (catL c1n (Nat.le_of_ble_eq_true rfl)) hl.1.1 (fun H locs hP => ?_)
        refine lv_if_ne hx hb (tgt := 48) dX5_readList_38 (by decide) (fun c38 => ?_) (fun c38 => ?_)
        · have hf := ifn hf c38
          refine rv_iinc (k := 3) (d := 1) X dX5_readList_48 hl rfl (by decide) (by decide) rfl (fun ls hl => ?_)
          have hl : LV ls 4 [(3, .int (l3 + 1)), (0, va_rf l0), (1, va_rf l1), (2, .int l2)] := hl
          refine lv_goto (tgt := 13) hx hb dX5_readList_51 (by decide) ?_
          exact ih q35.1 l0 l1 l2 (l3 + 1) hf _ _ _ hP (hl.sub [1, 2, 3, 0] rfl)
        · have hf := ifp hf c38
          refine rw_aload_n X dX5_readList_41 rfl (hl.at 0 rfl) ?_
          refine lv_bipush (v := 41) hx hb dX5_readList_42 (by decide) ?_
          obtain ⟨u44, r44, hf⟩ := ob hf
          obtain ⟨q44, e44, hf⟩ := ob hf
          refine rw_callVi (As := [.int 41]) X dX5_readList_44 clX5_78 pyX5_skip (mX5_skip l e44) (by omega) r44 rfl hP rfl (catL c1n (Nat.le_of_ble_eq_true rfl)) hl.1.1 (fun H locs hP => ?_)
          obtain ⟨z47, ez47, hf⟩ := ob hf
          obtain ⟨hz47, rfl⟩ := zr_some ez47
          cases hf
          exact rw_zret X hz47 dX5_readList_47 hP
      · have hf := ifp hf c27
        refine lv_iconst (v := 0) hx hb dX5_readList_30 (by decide) ?_
        cases hf
        exact rw_zret X (by first | exact Or.inl rfl | exact Or.inr rfl) dX5_readList_31 hP
def fX5_readList (kN : HS → Option Nat → Option Nat → Int32 → Option (HS × Int32)) (Y : LY) (S : HS) (l0 : Option Nat) (l1 : Option Nat) (l2 : Int32) : Option (HS × Int32) :=
  (rcv Y 5 l0).bind fun _ =>
  (fX5_skip Y S l0 40).bind fun q3 =>
  if q3.2 = 0 then
    some (q3.1, 0)
  else
    fX5_readList_13 kN Y FU q3.1 l0 l1 l2 0
set_option maxRecDepth 100000 in
set_option maxHeartbeats 4000000 in
theorem mX5_readList (l : Launch) {G : GG} {Y : LY} {S : HS} {l0 : Option Nat} {l1 : Option Nat} {l2 : Int32} {res : HS × Int32} {kN : HS → Option Nat → Option Nat → Int32 → Option (HS × Int32)} {rfN rlN : Nat} (hkN : ∀ (S : HS) (a b : Option Nat) (k : Int32) (res : HS × Int32), kN S a b k = some res → MM l yX5_readNode cX5_readNode 5 (some .boolean) rfN rlN G Y S [va_rf a, va_rf b, .int k] res.1 (some (.int res.2))) (hf : fX5_readList kN Y S l0 l1 l2 = some res) : MM l yX5_readList cX5_readList 4 (some .boolean) (rfN + 12) (rlN + 600) G Y S [va_rf l0, va_rf l1, .int l2] res.1 (some (.int res.2)) := by
  refine mm_of2 (plainFor_of_name (by decide +kernel)) (Nat.le_of_ble_eq_true rfl) (c1c (cr _) (c1c (cr _) (c1c (ci _) c1n))) ?_
  intro p e R s m args below meth c X H locs ls hP hl
  have X : Cx p R s m args meth c RX5 cX5_readList 4 (rfN + 12) (rlN + 600) (fun q => q ∈ Y.1) G (some .boolean) := X
  have hx := X.1.1
  have hb := X.1.2.1
  have hl : LV ls 4 [(0, va_rf l0), (1, va_rf l1), (2, .int l2)] := hl
  unfold fX5_readList at hf
  refine rw_aload_n X dX5_readList_0 rfl (hl.at 0 rfl) ?_
  refine lv_bipush (v := 40) hx hb dX5_readList_1 (by decide) ?_
  obtain ⟨u3, r3, hf⟩ := ob hf
  obtain ⟨q3, e3, hf⟩ := ob hf
  refine rw_callVi (As := [.int 40]) X dX5_readList_3 clX5_78 pyX5_skip (mX5_skip l e3) (by omega) r3 rfl hP rfl (catL c1n (Nat.le_of_ble_eq_true rfl)) hl.1.1 (fun H locs hP => ?_)
  refine lv_if_ne hx hb (tgt := 11) dX5_readList_6 (by decide) (fun c6 => ?_) (fun c6 => ?_)
  · have hf := ifn hf c6
    refine lv_iconst (v := 0) hx hb dX5_readList_11 (by decide) ?_
    refine rv_istore_n X dX5_readList_12 rfl hl (by decide) rfl (fun ls hl => ?_)
    have hl : LV ls 4 [(3, .int 0), (0, va_rf l0), (1, va_rf l1), (2, .int l2)] := hl
    exact wX5_readList_13 X hkN FU q3.1 l0 l1 l2 0 hf _ _ _ hP (hl.sub [1, 2, 3, 0] rfl)
  · have hf := ifp hf c6
    refine lv_iconst (v := 0) hx hb dX5_readList_9 (by decide) ?_
    cases hf
    exact rw_zret X (by first | exact Or.inl rfl | exact Or.inr rfl) dX5_readList_10 hP
theorem dX5_readRest_0 : decode cX5_readRest 0 = .ok (.aload_n 1, 1) := by decide +kernel
theorem dX5_readRest_1 : decode cX5_readRest 1 = .ok (.getfield 50, 3) := by decide +kernel
theorem dX5_readRest_4 : decode cX5_readRest 4 = .ok (.tableswitch 273 0 14 #[76, 76, 101, 113, 125, 125, 125, 125, 132, 273, 158, 158, 186, 217, 245], 76) := by decide +kernel
theorem dX5_readRest_80 : decode cX5_readRest 80 = .ok (.aload_n 0, 1) := by decide +kernel
theorem dX5_readRest_81 : decode cX5_readRest 81 = .ok (.aload_n 1, 1) := by decide +kernel
theorem dX5_readRest_82 : decode cX5_readRest 82 = .ok (.iconst 0, 1) := by decide +kernel
theorem dX5_readRest_83 : decode cX5_readRest 83 = .ok (.bipush 9, 2) := by decide +kernel
theorem dX5_readRest_85 : decode cX5_readRest 85 = .ok (.invokevirtual 55, 3) := by decide +kernel
theorem dX5_readRest_88 : decode cX5_readRest 88 = .ok (.ifCond .eq 15, 3) := by decide +kernel
theorem dX5_readRest_91 : decode cX5_readRest 91 = .ok (.aload_n 0, 1) := by decide +kernel
theorem dX5_readRest_92 : decode cX5_readRest 92 = .ok (.aload_n 1, 1) := by decide +kernel
theorem dX5_readRest_93 : decode cX5_readRest 93 = .ok (.invokevirtual 59, 3) := by decide +kernel
theorem dX5_readRest_96 : decode cX5_readRest 96 = .ok (.ifCond .eq 7, 3) := by decide +kernel
theorem dX5_readRest_99 : decode cX5_readRest 99 = .ok (.iconst 1, 1) := by decide +kernel
theorem dX5_readRest_100 : decode cX5_readRest 100 = .ok (.goto 4, 3) := by decide +kernel
theorem dX5_readRest_103 : decode cX5_readRest 103 = .ok (.iconst 0, 1) := by decide +kernel
theorem dX5_readRest_104 : decode cX5_readRest 104 = .ok (.ireturn, 1) := by decide +kernel
theorem dX5_readRest_105 : decode cX5_readRest 105 = .ok (.aload_n 0, 1) := by decide +kernel
theorem dX5_readRest_106 : decode cX5_readRest 106 = .ok (.aload_n 1, 1) := by decide +kernel
theorem dX5_readRest_107 : decode cX5_readRest 107 = .ok (.aload_n 1, 1) := by decide +kernel
theorem dX5_readRest_108 : decode cX5_readRest 108 = .ok (.getfield 63, 3) := by decide +kernel
theorem dX5_readRest_111 : decode cX5_readRest 111 = .ok (.ldc 67, 2) := by decide +kernel
theorem dX5_readRest_113 : decode cX5_readRest 113 = .ok (.invokevirtual 69, 3) := by decide +kernel
theorem dX5_readRest_116 : decode cX5_readRest 116 = .ok (.ireturn, 1) := by decide +kernel
theorem dX5_readRest_117 : decode cX5_readRest 117 = .ok (.aload_n 0, 1) := by decide +kernel
theorem dX5_readRest_118 : decode cX5_readRest 118 = .ok (.aload_n 1, 1) := by decide +kernel
theorem dX5_readRest_119 : decode cX5_readRest 119 = .ok (.aload_n 1, 1) := by decide +kernel
theorem dX5_readRest_120 : decode cX5_readRest 120 = .ok (.getfield 63, 3) := by decide +kernel
theorem dX5_readRest_123 : decode cX5_readRest 123 = .ok (.ldc 73, 2) := by decide +kernel
theorem dX5_readRest_125 : decode cX5_readRest 125 = .ok (.invokevirtual 69, 3) := by decide +kernel
theorem dX5_readRest_128 : decode cX5_readRest 128 = .ok (.ireturn, 1) := by decide +kernel
theorem dX5_readRest_129 : decode cX5_readRest 129 = .ok (.aload_n 0, 1) := by decide +kernel
theorem dX5_readRest_130 : decode cX5_readRest 130 = .ok (.aload_n 1, 1) := by decide +kernel
theorem dX5_readRest_131 : decode cX5_readRest 131 = .ok (.iload_n 2, 1) := by decide +kernel
theorem dX5_readRest_132 : decode cX5_readRest 132 = .ok (.invokevirtual 75, 3) := by decide +kernel
theorem dX5_readRest_135 : decode cX5_readRest 135 = .ok (.ireturn, 1) := by decide +kernel
theorem dX5_readRest_136 : decode cX5_readRest 136 = .ok (.aload_n 0, 1) := by decide +kernel
theorem dX5_readRest_137 : decode cX5_readRest 137 = .ok (.aload_n 1, 1) := by decide +kernel
theorem dX5_readRest_138 : decode cX5_readRest 138 = .ok (.iconst 0, 1) := by decide +kernel
theorem dX5_readRest_139 : decode cX5_readRest 139 = .ok (.bipush 9, 2) := by decide +kernel
theorem dX5_readRest_141 : decode cX5_readRest 141 = .ok (.invokevirtual 55, 3) := by decide +kernel
theorem dX5_readRest_144 : decode cX5_readRest 144 = .ok (.ifCond .eq 16, 3) := by decide +kernel
theorem dX5_readRest_147 : decode cX5_readRest 147 = .ok (.aload_n 0, 1) := by decide +kernel
theorem dX5_readRest_148 : decode cX5_readRest 148 = .ok (.aload_n 1, 1) := by decide +kernel
theorem dX5_readRest_149 : decode cX5_readRest 149 = .ok (.iload_n 2, 1) := by decide +kernel
theorem dX5_readRest_150 : decode cX5_readRest 150 = .ok (.invokevirtual 75, 3) := by decide +kernel
theorem dX5_readRest_153 : decode cX5_readRest 153 = .ok (.ifCond .eq 7, 3) := by decide +kernel
theorem dX5_readRest_156 : decode cX5_readRest 156 = .ok (.iconst 1, 1) := by decide +kernel
theorem dX5_readRest_157 : decode cX5_readRest 157 = .ok (.goto 4, 3) := by decide +kernel
theorem dX5_readRest_160 : decode cX5_readRest 160 = .ok (.iconst 0, 1) := by decide +kernel
theorem dX5_readRest_161 : decode cX5_readRest 161 = .ok (.ireturn, 1) := by decide +kernel
theorem dX5_readRest_162 : decode cX5_readRest 162 = .ok (.aload_n 0, 1) := by decide +kernel
theorem dX5_readRest_163 : decode cX5_readRest 163 = .ok (.aload_n 1, 1) := by decide +kernel
theorem dX5_readRest_164 : decode cX5_readRest 164 = .ok (.iconst 1, 1) := by decide +kernel
theorem dX5_readRest_165 : decode cX5_readRest 165 = .ok (.bipush 9, 2) := by decide +kernel
theorem dX5_readRest_167 : decode cX5_readRest 167 = .ok (.invokevirtual 55, 3) := by decide +kernel
theorem dX5_readRest_170 : decode cX5_readRest 170 = .ok (.ifCond .eq 18, 3) := by decide +kernel
theorem dX5_readRest_173 : decode cX5_readRest 173 = .ok (.aload_n 0, 1) := by decide +kernel
theorem dX5_readRest_174 : decode cX5_readRest 174 = .ok (.aload_n 1, 1) := by decide +kernel
theorem dX5_readRest_175 : decode cX5_readRest 175 = .ok (.iload_n 2, 1) := by decide +kernel
theorem dX5_readRest_176 : decode cX5_readRest 176 = .ok (.iconst 1, 1) := by decide +kernel
theorem dX5_readRest_177 : decode cX5_readRest 177 = .ok (.iadd, 1) := by decide +kernel
theorem dX5_readRest_178 : decode cX5_readRest 178 = .ok (.invokevirtual 28, 3) := by decide +kernel
theorem dX5_readRest_181 : decode cX5_readRest 181 = .ok (.ifCond .eq 7, 3) := by decide +kernel
theorem dX5_readRest_184 : decode cX5_readRest 184 = .ok (.iconst 1, 1) := by decide +kernel
theorem dX5_readRest_185 : decode cX5_readRest 185 = .ok (.goto 4, 3) := by decide +kernel
theorem dX5_readRest_188 : decode cX5_readRest 188 = .ok (.iconst 0, 1) := by decide +kernel
theorem dX5_readRest_189 : decode cX5_readRest 189 = .ok (.ireturn, 1) := by decide +kernel
theorem dX5_readRest_190 : decode cX5_readRest 190 = .ok (.aload_n 0, 1) := by decide +kernel
theorem dX5_readRest_191 : decode cX5_readRest 191 = .ok (.aload_n 1, 1) := by decide +kernel
theorem dX5_readRest_192 : decode cX5_readRest 192 = .ok (.aload_n 1, 1) := by decide +kernel
theorem dX5_readRest_193 : decode cX5_readRest 193 = .ok (.getfield 63, 3) := by decide +kernel
theorem dX5_readRest_196 : decode cX5_readRest 196 = .ok (.ldc 67, 2) := by decide +kernel
theorem dX5_readRest_198 : decode cX5_readRest 198 = .ok (.invokevirtual 69, 3) := by decide +kernel
theorem dX5_readRest_201 : decode cX5_readRest 201 = .ok (.ifCond .eq 18, 3) := by decide +kernel
theorem dX5_readRest_204 : decode cX5_readRest 204 = .ok (.aload_n 0, 1) := by decide +kernel
theorem dX5_readRest_205 : decode cX5_readRest 205 = .ok (.aload_n 1, 1) := by decide +kernel
theorem dX5_readRest_206 : decode cX5_readRest 206 = .ok (.iload_n 2, 1) := by decide +kernel
theorem dX5_readRest_207 : decode cX5_readRest 207 = .ok (.iconst 1, 1) := by decide +kernel
theorem dX5_readRest_208 : decode cX5_readRest 208 = .ok (.iadd, 1) := by decide +kernel
theorem dX5_readRest_209 : decode cX5_readRest 209 = .ok (.invokevirtual 28, 3) := by decide +kernel
theorem dX5_readRest_212 : decode cX5_readRest 212 = .ok (.ifCond .eq 7, 3) := by decide +kernel
theorem dX5_readRest_215 : decode cX5_readRest 215 = .ok (.iconst 1, 1) := by decide +kernel
theorem dX5_readRest_216 : decode cX5_readRest 216 = .ok (.goto 4, 3) := by decide +kernel
theorem dX5_readRest_219 : decode cX5_readRest 219 = .ok (.iconst 0, 1) := by decide +kernel
theorem dX5_readRest_220 : decode cX5_readRest 220 = .ok (.ireturn, 1) := by decide +kernel
theorem dX5_readRest_221 : decode cX5_readRest 221 = .ok (.aload_n 0, 1) := by decide +kernel
theorem dX5_readRest_222 : decode cX5_readRest 222 = .ok (.aload_n 1, 1) := by decide +kernel
theorem dX5_readRest_223 : decode cX5_readRest 223 = .ok (.iconst 0, 1) := by decide +kernel
theorem dX5_readRest_224 : decode cX5_readRest 224 = .ok (.bipush 9, 2) := by decide +kernel
theorem dX5_readRest_226 : decode cX5_readRest 226 = .ok (.invokevirtual 55, 3) := by decide +kernel
theorem dX5_readRest_229 : decode cX5_readRest 229 = .ok (.ifCond .eq 18, 3) := by decide +kernel
theorem dX5_readRest_232 : decode cX5_readRest 232 = .ok (.aload_n 0, 1) := by decide +kernel
theorem dX5_readRest_233 : decode cX5_readRest 233 = .ok (.aload_n 1, 1) := by decide +kernel
theorem dX5_readRest_234 : decode cX5_readRest 234 = .ok (.iload_n 2, 1) := by decide +kernel
theorem dX5_readRest_235 : decode cX5_readRest 235 = .ok (.iconst 1, 1) := by decide +kernel
theorem dX5_readRest_236 : decode cX5_readRest 236 = .ok (.iadd, 1) := by decide +kernel
theorem dX5_readRest_237 : decode cX5_readRest 237 = .ok (.invokevirtual 28, 3) := by decide +kernel
theorem dX5_readRest_240 : decode cX5_readRest 240 = .ok (.ifCond .eq 7, 3) := by decide +kernel
theorem dX5_readRest_243 : decode cX5_readRest 243 = .ok (.iconst 1, 1) := by decide +kernel
theorem dX5_readRest_244 : decode cX5_readRest 244 = .ok (.goto 4, 3) := by decide +kernel
theorem dX5_readRest_247 : decode cX5_readRest 247 = .ok (.iconst 0, 1) := by decide +kernel
theorem dX5_readRest_248 : decode cX5_readRest 248 = .ok (.ireturn, 1) := by decide +kernel
theorem dX5_readRest_249 : decode cX5_readRest 249 = .ok (.aload_n 0, 1) := by decide +kernel
theorem dX5_readRest_250 : decode cX5_readRest 250 = .ok (.aload_n 1, 1) := by decide +kernel
theorem dX5_readRest_251 : decode cX5_readRest 251 = .ok (.iconst 0, 1) := by decide +kernel
theorem dX5_readRest_252 : decode cX5_readRest 252 = .ok (.bipush 7, 2) := by decide +kernel
theorem dX5_readRest_254 : decode cX5_readRest 254 = .ok (.invokevirtual 55, 3) := by decide +kernel
theorem dX5_readRest_257 : decode cX5_readRest 257 = .ok (.ifCond .eq 18, 3) := by decide +kernel
theorem dX5_readRest_260 : decode cX5_readRest 260 = .ok (.aload_n 0, 1) := by decide +kernel
theorem dX5_readRest_261 : decode cX5_readRest 261 = .ok (.aload_n 1, 1) := by decide +kernel
theorem dX5_readRest_262 : decode cX5_readRest 262 = .ok (.iload_n 2, 1) := by decide +kernel
theorem dX5_readRest_263 : decode cX5_readRest 263 = .ok (.iconst 1, 1) := by decide +kernel
theorem dX5_readRest_264 : decode cX5_readRest 264 = .ok (.iadd, 1) := by decide +kernel
theorem dX5_readRest_265 : decode cX5_readRest 265 = .ok (.invokevirtual 28, 3) := by decide +kernel
theorem dX5_readRest_268 : decode cX5_readRest 268 = .ok (.ifCond .eq 7, 3) := by decide +kernel
theorem dX5_readRest_271 : decode cX5_readRest 271 = .ok (.iconst 1, 1) := by decide +kernel
theorem dX5_readRest_272 : decode cX5_readRest 272 = .ok (.goto 4, 3) := by decide +kernel
theorem dX5_readRest_275 : decode cX5_readRest 275 = .ok (.iconst 0, 1) := by decide +kernel
theorem dX5_readRest_276 : decode cX5_readRest 276 = .ok (.ireturn, 1) := by decide +kernel
theorem dX5_readRest_277 : decode cX5_readRest 277 = .ok (.aload_n 0, 1) := by decide +kernel
theorem dX5_readRest_278 : decode cX5_readRest 278 = .ok (.aload_n 1, 1) := by decide +kernel
theorem dX5_readRest_279 : decode cX5_readRest 279 = .ok (.iload_n 2, 1) := by decide +kernel
theorem dX5_readRest_280 : decode cX5_readRest 280 = .ok (.iconst 1, 1) := by decide +kernel
theorem dX5_readRest_281 : decode cX5_readRest 281 = .ok (.iadd, 1) := by decide +kernel
theorem dX5_readRest_282 : decode cX5_readRest 282 = .ok (.invokevirtual 28, 3) := by decide +kernel
theorem dX5_readRest_285 : decode cX5_readRest 285 = .ok (.ireturn, 1) := by decide +kernel
theorem pyX5_readRest : PY yX5_readRest 2 := ⟨by decide +kernel, by decide +kernel, by decide +kernel⟩
def fX5_readRest_80 (kN : HS → Option Nat → Option Nat → Int32 → Option (HS × Int32)) (Y : LY) (S : HS) (l0 : Option Nat) (l1 : Option Nat) : Option (HS × Int32) :=
  (rcv Y 5 l0).bind fun _ =>
  (fX5_readNumber Y S l0 l1 0 9).bind fun q85 =>
  if q85.2 = 0 then
    some (q85.1, 0)
  else
    (rcv Y 5 l0).bind fun _ =>
    (fX5_readEffects Y q85.1 l0 l1).bind fun q93 =>
    if q93.2 = 0 then
      some (q93.1, 0)
    else
      some (q93.1, 1)
set_option maxRecDepth 100000 in
set_option maxHeartbeats 4000000 in
theorem wX5_readRest_80 {p : Program} {l : Launch} {e : Env} {R : Room} {s : State} {m : MethodId} {args : Array Value} {below : List Frame} {meth : Method} {c : Code} {G : GG} {Y : LY} {res : HS × Int32} {kN : HS → Option Nat → Option Nat → Int32 → Option (HS × Int32)} {rfN rlN : Nat} (X : Cx p R s m args meth c RX5 cX5_readRest 3 (rfN + 24) (rlN + 1200) (fun q => q ∈ Y.1) G (some .boolean)) (hkN : ∀ (S : HS) (a b : Option Nat) (k : Int32) (res : HS × Int32), kN S a b k = some res → MM l yX5_readNode cX5_readNode 5 (some .boolean) rfN rlN G Y S [va_rf a, va_rf b, .int k] res.1 (some (.int res.2))) : ∀ (S : HS) (l0 : Option Nat) (l1 : Option Nat), fX5_readRest_80 kN Y S l0 l1 = some res → ∀ (H : Heap) (locs : List Loc) (ls : Array Slot), HP (fun q => q ∈ Y.1) G Y s S H locs → LV ls 3 [(0, va_rf l0), (1, va_rf l1)] → W p l e R s m args below meth c H locs 0 0 (MQ below (QI G Y res.1 (some (.int res.2))) args s 0 0 (fun q => q ∈ Y.1)) (F0 m 80 ls []) := by
  have hx := X.1.1
  have hb := X.1.2.1
  intro S l0 l1 hf H locs ls hP hl
  unfold fX5_readRest_80 at hf
  refine rw_aload_n X dX5_readRest_80 rfl (hl.at 0 rfl) ?_
  refine rw_aload_n X dX5_readRest_81 rfl (hl.at 1 rfl) ?_
  refine lv_iconst (v := 0) hx hb dX5_readRest_82 (by decide) ?_
  refine lv_bipush (v := 9) hx hb dX5_readRest_83 (by decide) ?_
  obtain ⟨u85, r85, hf⟩ := ob hf
  obtain ⟨q85, e85, hf⟩ := ob hf
  refine rw_callVi (As := [va_rf l1, .int 0, .int 9]) X dX5_readRest_85 clX5_55 pyX5_readNumber (mX5_readNumber l e85) (by omega) r85 rfl hP rfl (catL c1n (Nat.le_of_ble_eq_true rfl)) hl.1.1 (fun H locs hP => ?_)
  refine lv_if_eq hx hb (tgt := 103) dX5_readRest_88 (by decide) (fun c88 => ?_) (fun c88 => ?_)
  · have hf := ifp hf c88
    refine lv_iconst (v := 0) hx hb dX5_readRest_103 (by decide) ?_
    cases hf
    exact rw_zret X (by first | exact Or.inl rfl | exact Or.inr rfl) dX5_readRest_104 hP
  · have hf := ifn hf c88
    refine rw_aload_n X dX5_readRest_91 rfl (hl.at 0 rfl) ?_
    refine rw_aload_n X dX5_readRest_92 rfl (hl.at 1 rfl) ?_
    obtain ⟨u93, r93, hf⟩ := ob hf
    obtain ⟨q93, e93, hf⟩ := ob hf
    refine rw_callVi (As := [va_rf l1]) X dX5_readRest_93 clX5_59 pyX5_readEffects (mX5_readEffects l e93) (by omega) r93 rfl hP rfl (catL c1n (Nat.le_of_ble_eq_true rfl)) hl.1.1 (fun H locs hP => ?_)
    refine lv_if_eq hx hb (tgt := 103) dX5_readRest_96 (by decide) (fun c96 => ?_) (fun c96 => ?_)
    · have hf := ifp hf c96
      refine lv_iconst (v := 0) hx hb dX5_readRest_103 (by decide) ?_
      cases hf
      exact rw_zret X (by first | exact Or.inl rfl | exact Or.inr rfl) dX5_readRest_104 hP
    · have hf := ifn hf c96
      refine lv_iconst (v := 1) hx hb dX5_readRest_99 (by decide) ?_
      refine lv_goto (tgt := 104) hx hb dX5_readRest_100 (by decide) ?_
      cases hf
      exact rw_zret X (by first | exact Or.inl rfl | exact Or.inr rfl) dX5_readRest_104 hP
def fX5_readRest_277 (kN : HS → Option Nat → Option Nat → Int32 → Option (HS × Int32)) (Y : LY) (S : HS) (l0 : Option Nat) (l1 : Option Nat) (l2 : Int32) : Option (HS × Int32) :=
  (rcv Y 5 l0).bind fun _ =>
  (kN S l0 l1 (l2 + 1)).bind fun q282 =>
  (zr q282.2).bind fun z285 =>
  some (q282.1, z285)
set_option maxRecDepth 100000 in
set_option maxHeartbeats 4000000 in
theorem wX5_readRest_277 {p : Program} {l : Launch} {e : Env} {R : Room} {s : State} {m : MethodId} {args : Array Value} {below : List Frame} {meth : Method} {c : Code} {G : GG} {Y : LY} {res : HS × Int32} {kN : HS → Option Nat → Option Nat → Int32 → Option (HS × Int32)} {rfN rlN : Nat} (X : Cx p R s m args meth c RX5 cX5_readRest 3 (rfN + 24) (rlN + 1200) (fun q => q ∈ Y.1) G (some .boolean)) (hkN : ∀ (S : HS) (a b : Option Nat) (k : Int32) (res : HS × Int32), kN S a b k = some res → MM l yX5_readNode cX5_readNode 5 (some .boolean) rfN rlN G Y S [va_rf a, va_rf b, .int k] res.1 (some (.int res.2))) : ∀ (S : HS) (l0 : Option Nat) (l1 : Option Nat) (l2 : Int32), fX5_readRest_277 kN Y S l0 l1 l2 = some res → ∀ (H : Heap) (locs : List Loc) (ls : Array Slot), HP (fun q => q ∈ Y.1) G Y s S H locs → LV ls 3 [(0, va_rf l0), (1, va_rf l1), (2, .int l2)] → W p l e R s m args below meth c H locs 0 0 (MQ below (QI G Y res.1 (some (.int res.2))) args s 0 0 (fun q => q ∈ Y.1)) (F0 m 277 ls []) := by
  have hx := X.1.1
  have hb := X.1.2.1
  intro S l0 l1 l2 hf H locs ls hP hl
  unfold fX5_readRest_277 at hf
  refine rw_aload_n X dX5_readRest_277 rfl (hl.at 0 rfl) ?_
  refine rw_aload_n X dX5_readRest_278 rfl (hl.at 1 rfl) ?_
  refine lv_iload_n hx hb dX5_readRest_279 rfl (hl.at 2 rfl) ?_
  refine lv_iconst (v := 1) hx hb dX5_readRest_280 (by decide) ?_
  refine lv_iadd hx hb dX5_readRest_281 ?_
  obtain ⟨u282, r282, hf⟩ := ob hf
  obtain ⟨q282, e282, hf⟩ := ob hf
  refine rw_callVi (As := [va_rf l1, .int (l2 + 1)]) X dX5_readRest_282 clX5_28 pyX5_readNode (hkN _ _ _ _ _ e282) (by omega) r282 rfl hP rfl (catL c1n (Nat.le_of_ble_eq_true rfl)) hl.1.1 (fun H locs hP => ?_)
  obtain ⟨z285, ez285, hf⟩ := ob hf
  obtain ⟨hz285, rfl⟩ := zr_some ez285
  cases hf
  exact rw_zret X hz285 dX5_readRest_285 hP
def fX5_readRest_162 (kN : HS → Option Nat → Option Nat → Int32 → Option (HS × Int32)) (Y : LY) (S : HS) (l0 : Option Nat) (l1 : Option Nat) (l2 : Int32) : Option (HS × Int32) :=
  (rcv Y 5 l0).bind fun _ =>
  (fX5_readNumber Y S l0 l1 1 9).bind fun q167 =>
  if q167.2 = 0 then
    some (q167.1, 0)
  else
    (rcv Y 5 l0).bind fun _ =>
    (kN q167.1 l0 l1 (l2 + 1)).bind fun q178 =>
    if q178.2 = 0 then
      some (q178.1, 0)
    else
      some (q178.1, 1)
set_option maxRecDepth 100000 in
set_option maxHeartbeats 4000000 in
theorem wX5_readRest_162 {p : Program} {l : Launch} {e : Env} {R : Room} {s : State} {m : MethodId} {args : Array Value} {below : List Frame} {meth : Method} {c : Code} {G : GG} {Y : LY} {res : HS × Int32} {kN : HS → Option Nat → Option Nat → Int32 → Option (HS × Int32)} {rfN rlN : Nat} (X : Cx p R s m args meth c RX5 cX5_readRest 3 (rfN + 24) (rlN + 1200) (fun q => q ∈ Y.1) G (some .boolean)) (hkN : ∀ (S : HS) (a b : Option Nat) (k : Int32) (res : HS × Int32), kN S a b k = some res → MM l yX5_readNode cX5_readNode 5 (some .boolean) rfN rlN G Y S [va_rf a, va_rf b, .int k] res.1 (some (.int res.2))) : ∀ (S : HS) (l0 : Option Nat) (l1 : Option Nat) (l2 : Int32), fX5_readRest_162 kN Y S l0 l1 l2 = some res → ∀ (H : Heap) (locs : List Loc) (ls : Array Slot), HP (fun q => q ∈ Y.1) G Y s S H locs → LV ls 3 [(0, va_rf l0), (1, va_rf l1), (2, .int l2)] → W p l e R s m args below meth c H locs 0 0 (MQ below (QI G Y res.1 (some (.int res.2))) args s 0 0 (fun q => q ∈ Y.1)) (F0 m 162 ls []) := by
  have hx := X.1.1
  have hb := X.1.2.1
  intro S l0 l1 l2 hf H locs ls hP hl
  unfold fX5_readRest_162 at hf
  refine rw_aload_n X dX5_readRest_162 rfl (hl.at 0 rfl) ?_
  refine rw_aload_n X dX5_readRest_163 rfl (hl.at 1 rfl) ?_
  refine lv_iconst (v := 1) hx hb dX5_readRest_164 (by decide) ?_
  refine lv_bipush (v := 9) hx hb dX5_readRest_165 (by decide) ?_
  obtain ⟨u167, r167, hf⟩ := ob hf
  obtain ⟨q167, e167, hf⟩ := ob hf
  refine rw_callVi (As := [va_rf l1, .int 1, .int 9]) X dX5_readRest_167 clX5_55 pyX5_readNumber (mX5_readNumber l e167) (by omega) r167 rfl hP rfl (catL c1n (Nat.le_of_ble_eq_true rfl)) hl.1.1 (fun H locs hP => ?_)
  refine lv_if_eq hx hb (tgt := 188) dX5_readRest_170 (by decide) (fun c170 => ?_) (fun c170 => ?_)
  · have hf := ifp hf c170
    refine lv_iconst (v := 0) hx hb dX5_readRest_188 (by decide) ?_
    cases hf
    exact rw_zret X (by first | exact Or.inl rfl | exact Or.inr rfl) dX5_readRest_189 hP
  · have hf := ifn hf c170
    refine rw_aload_n X dX5_readRest_173 rfl (hl.at 0 rfl) ?_
    refine rw_aload_n X dX5_readRest_174 rfl (hl.at 1 rfl) ?_
    refine lv_iload_n hx hb dX5_readRest_175 rfl (hl.at 2 rfl) ?_
    refine lv_iconst (v := 1) hx hb dX5_readRest_176 (by decide) ?_
    refine lv_iadd hx hb dX5_readRest_177 ?_
    obtain ⟨u178, r178, hf⟩ := ob hf
    obtain ⟨q178, e178, hf⟩ := ob hf
    refine rw_callVi (As := [va_rf l1, .int (l2 + 1)]) X dX5_readRest_178 clX5_28 pyX5_readNode (hkN _ _ _ _ _ e178) (by omega) r178 rfl hP rfl (catL c1n (Nat.le_of_ble_eq_true rfl)) hl.1.1 (fun H locs hP => ?_)
    refine lv_if_eq hx hb (tgt := 188) dX5_readRest_181 (by decide) (fun c181 => ?_) (fun c181 => ?_)
    · have hf := ifp hf c181
      refine lv_iconst (v := 0) hx hb dX5_readRest_188 (by decide) ?_
      cases hf
      exact rw_zret X (by first | exact Or.inl rfl | exact Or.inr rfl) dX5_readRest_189 hP
    · have hf := ifn hf c181
      refine lv_iconst (v := 1) hx hb dX5_readRest_184 (by decide) ?_
      refine lv_goto (tgt := 189) hx hb dX5_readRest_185 (by decide) ?_
      cases hf
      exact rw_zret X (by first | exact Or.inl rfl | exact Or.inr rfl) dX5_readRest_189 hP
def fX5_readRest (kN : HS → Option Nat → Option Nat → Int32 → Option (HS × Int32)) (Y : LY) (S : HS) (l0 : Option Nat) (l1 : Option Nat) (l2 : Int32) : Option (HS × Int32) :=
  (gI Y 4 404 l1 S).bind fun v1 =>
  if v1 = 0 then
    fX5_readRest_80 kN Y S l0 l1
  else
  if v1 = 1 then
    fX5_readRest_80 kN Y S l0 l1
  else
  if v1 = 2 then
    (gR Y 4 401 l1 S).bind fun v108 =>
    (rcv Y 5 l0).bind fun _ =>
    (fX5_readClause Y S l0 l1 v108 1).bind fun q113 =>
    (zr q113.2).bind fun z116 =>
    some (q113.1, z116)
  else
  if v1 = 3 then
    (gR Y 4 401 l1 S).bind fun v120 =>
    (rcv Y 5 l0).bind fun _ =>
    (fX5_readClause Y S l0 l1 v120 2).bind fun q125 =>
    (zr q125.2).bind fun z128 =>
    some (q125.1, z128)
  else
  if v1 = 4 then
    (rcv Y 5 l0).bind fun _ =>
    (fX5_readList kN Y S l0 l1 l2).bind fun q132 =>
    (zr q132.2).bind fun z135 =>
    some (q132.1, z135)
  else
  if v1 = 5 then
    (rcv Y 5 l0).bind fun _ =>
    (fX5_readList kN Y S l0 l1 l2).bind fun q132 =>
    (zr q132.2).bind fun z135 =>
    some (q132.1, z135)
  else
  if v1 = 6 then
    (rcv Y 5 l0).bind fun _ =>
    (fX5_readList kN Y S l0 l1 l2).bind fun q132 =>
    (zr q132.2).bind fun z135 =>
    some (q132.1, z135)
  else
  if v1 = 7 then
    (rcv Y 5 l0).bind fun _ =>
    (fX5_readList kN Y S l0 l1 l2).bind fun q132 =>
    (zr q132.2).bind fun z135 =>
    some (q132.1, z135)
  else
  if v1 = 8 then
    (rcv Y 5 l0).bind fun _ =>
    (fX5_readNumber Y S l0 l1 0 9).bind fun q141 =>
    if q141.2 = 0 then
      some (q141.1, 0)
    else
      (rcv Y 5 l0).bind fun _ =>
      (fX5_readList kN Y q141.1 l0 l1 l2).bind fun q150 =>
      if q150.2 = 0 then
        some (q150.1, 0)
      else
        some (q150.1, 1)
  else
  if v1 = 9 then
    fX5_readRest_277 kN Y S l0 l1 l2
  else
  if v1 = 10 then
    fX5_readRest_162 kN Y S l0 l1 l2
  else
  if v1 = 11 then
    fX5_readRest_162 kN Y S l0 l1 l2
  else
  if v1 = 12 then
    (gR Y 4 401 l1 S).bind fun v193 =>
    (rcv Y 5 l0).bind fun _ =>
    (fX5_readClause Y S l0 l1 v193 1).bind fun q198 =>
    if q198.2 = 0 then
      some (q198.1, 0)
    else
      (rcv Y 5 l0).bind fun _ =>
      (kN q198.1 l0 l1 (l2 + 1)).bind fun q209 =>
      if q209.2 = 0 then
        some (q209.1, 0)
      else
        some (q209.1, 1)
  else
  if v1 = 13 then
    (rcv Y 5 l0).bind fun _ =>
    (fX5_readNumber Y S l0 l1 0 9).bind fun q226 =>
    if q226.2 = 0 then
      some (q226.1, 0)
    else
      (rcv Y 5 l0).bind fun _ =>
      (kN q226.1 l0 l1 (l2 + 1)).bind fun q237 =>
      if q237.2 = 0 then
        some (q237.1, 0)
      else
        some (q237.1, 1)
  else
  if v1 = 14 then
    (rcv Y 5 l0).bind fun _ =>
    (fX5_readNumber Y S l0 l1 0 7).bind fun q254 =>
    if q254.2 = 0 then
      some (q254.1, 0)
    else
      (rcv Y 5 l0).bind fun _ =>
      (kN q254.1 l0 l1 (l2 + 1)).bind fun q265 =>
      if q265.2 = 0 then
        some (q265.1, 0)
      else
        some (q265.1, 1)
  else
  fX5_readRest_277 kN Y S l0 l1 l2
set_option maxRecDepth 100000 in
set_option maxHeartbeats 4000000 in
theorem mX5_readRest (l : Launch) {G : GG} {Y : LY} {S : HS} {l0 : Option Nat} {l1 : Option Nat} {l2 : Int32} {res : HS × Int32} {kN : HS → Option Nat → Option Nat → Int32 → Option (HS × Int32)} {rfN rlN : Nat} (hkN : ∀ (S : HS) (a b : Option Nat) (k : Int32) (res : HS × Int32), kN S a b k = some res → MM l yX5_readNode cX5_readNode 5 (some .boolean) rfN rlN G Y S [va_rf a, va_rf b, .int k] res.1 (some (.int res.2))) (hf : fX5_readRest kN Y S l0 l1 l2 = some res) : MM l yX5_readRest cX5_readRest 3 (some .boolean) (rfN + 24) (rlN + 1200) G Y S [va_rf l0, va_rf l1, .int l2] res.1 (some (.int res.2)) := by
  refine mm_of2 (plainFor_of_name (by decide +kernel)) (Nat.le_of_ble_eq_true rfl) (c1c (cr _) (c1c (cr _) (c1c (ci _) c1n))) ?_
  intro p e R s m args below meth c X H locs ls hP hl
  have X : Cx p R s m args meth c RX5 cX5_readRest 3 (rfN + 24) (rlN + 1200) (fun q => q ∈ Y.1) G (some .boolean) := X
  have hx := X.1.1
  have hb := X.1.2.1
  have hl : LV ls 3 [(0, va_rf l0), (1, va_rf l1), (2, .int l2)] := hl
  unfold fX5_readRest at hf
  refine rw_aload_n X dX5_readRest_0 rfl (hl.at 1 rfl) ?_
  obtain ⟨v1, e1, hf⟩ := ob hf
  refine rw_getI X dX5_readRest_1 fl5_50 e1 rfl hP ?_
  by_cases c4_0 : v1 = 0
  · have hf := ifp hf c4_0
    refine lv_tableIn (tgt := 80) hx hb dX5_readRest_4 (by rw [c4_0]; decide) (by rw [c4_0]; decide) (by rw [c4_0]; rfl) (by decide) ?_
    exact wX5_readRest_80 X hkN S l0 l1 hf _ _ _ hP (hl.sub [0, 1] rfl)
  have hf := ifn hf c4_0
  by_cases c4_1 : v1 = 1
  · have hf := ifp hf c4_1
    refine lv_tableIn (tgt := 80) hx hb dX5_readRest_4 (by rw [c4_1]; decide) (by rw [c4_1]; decide) (by rw [c4_1]; rfl) (by decide) ?_
    exact wX5_readRest_80 X hkN S l0 l1 hf _ _ _ hP (hl.sub [0, 1] rfl)
  have hf := ifn hf c4_1
  by_cases c4_2 : v1 = 2
  · have hf := ifp hf c4_2
    refine lv_tableIn (tgt := 105) hx hb dX5_readRest_4 (by rw [c4_2]; decide) (by rw [c4_2]; decide) (by rw [c4_2]; rfl) (by decide) ?_
    refine rw_aload_n X dX5_readRest_105 rfl (hl.at 0 rfl) ?_
    refine rw_aload_n X dX5_readRest_106 rfl (hl.at 1 rfl) ?_
    refine rw_aload_n X dX5_readRest_107 rfl (hl.at 1 rfl) ?_
    obtain ⟨v108, e108, hf⟩ := ob hf
    refine rw_getR X dX5_readRest_108 fl5_63 e108 rfl hP ?_
    refine va_ldcS hx hb X.1.2.2.2.1 X.2.2.1.2.2.2.1 dX5_readRest_111 ?_
    obtain ⟨u113, r113, hf⟩ := ob hf
    obtain ⟨q113, e113, hf⟩ := ob hf
    refine rw_callVi (As := [va_rf l1, va_rf v108, .ref (G.2.2.1 1)]) X dX5_readRest_113 clX5_69 pyX5_readClause (mX5_readClause l e113 (by first | decide | assumption)) (by omega) r113 rfl hP rfl (catL c1n (Nat.le_of_ble_eq_true rfl)) hl.1.1 (fun H locs hP => ?_)
    obtain ⟨z116, ez116, hf⟩ := ob hf
    obtain ⟨hz116, rfl⟩ := zr_some ez116
    cases hf
    exact rw_zret X hz116 dX5_readRest_116 hP
  have hf := ifn hf c4_2
  by_cases c4_3 : v1 = 3
  · have hf := ifp hf c4_3
    refine lv_tableIn (tgt := 117) hx hb dX5_readRest_4 (by rw [c4_3]; decide) (by rw [c4_3]; decide) (by rw [c4_3]; rfl) (by decide) ?_
    refine rw_aload_n X dX5_readRest_117 rfl (hl.at 0 rfl) ?_
    refine rw_aload_n X dX5_readRest_118 rfl (hl.at 1 rfl) ?_
    refine rw_aload_n X dX5_readRest_119 rfl (hl.at 1 rfl) ?_
    obtain ⟨v120, e120, hf⟩ := ob hf
    refine rw_getR X dX5_readRest_120 fl5_63 e120 rfl hP ?_
    refine va_ldcS hx hb X.1.2.2.2.1 X.2.2.1.2.2.2.2.1 dX5_readRest_123 ?_
    obtain ⟨u125, r125, hf⟩ := ob hf
    obtain ⟨q125, e125, hf⟩ := ob hf
    refine rw_callVi (As := [va_rf l1, va_rf v120, .ref (G.2.2.1 2)]) X dX5_readRest_125 clX5_69 pyX5_readClause (mX5_readClause l e125 (by first | decide | assumption)) (by omega) r125 rfl hP rfl (catL c1n (Nat.le_of_ble_eq_true rfl)) hl.1.1 (fun H locs hP => ?_)
    obtain ⟨z128, ez128, hf⟩ := ob hf
    obtain ⟨hz128, rfl⟩ := zr_some ez128
    cases hf
    exact rw_zret X hz128 dX5_readRest_128 hP
  have hf := ifn hf c4_3
  by_cases c4_4 : v1 = 4
  · have hf := ifp hf c4_4
    refine lv_tableIn (tgt := 129) hx hb dX5_readRest_4 (by rw [c4_4]; decide) (by rw [c4_4]; decide) (by rw [c4_4]; rfl) (by decide) ?_
    refine rw_aload_n X dX5_readRest_129 rfl (hl.at 0 rfl) ?_
    refine rw_aload_n X dX5_readRest_130 rfl (hl.at 1 rfl) ?_
    refine lv_iload_n hx hb dX5_readRest_131 rfl (hl.at 2 rfl) ?_
    obtain ⟨u132, r132, hf⟩ := ob hf
    obtain ⟨q132, e132, hf⟩ := ob hf
    refine rw_callVi (As := [va_rf l1, .int l2]) X dX5_readRest_132 clX5_75 pyX5_readList (mX5_readList l hkN e132) (by omega) r132 rfl hP rfl (catL c1n (Nat.le_of_ble_eq_true rfl)) hl.1.1 (fun H locs hP => ?_)
    obtain ⟨z135, ez135, hf⟩ := ob hf
    obtain ⟨hz135, rfl⟩ := zr_some ez135
    cases hf
    exact rw_zret X hz135 dX5_readRest_135 hP
  have hf := ifn hf c4_4
  by_cases c4_5 : v1 = 5
  · have hf := ifp hf c4_5
    refine lv_tableIn (tgt := 129) hx hb dX5_readRest_4 (by rw [c4_5]; decide) (by rw [c4_5]; decide) (by rw [c4_5]; rfl) (by decide) ?_
    refine rw_aload_n X dX5_readRest_129 rfl (hl.at 0 rfl) ?_
    refine rw_aload_n X dX5_readRest_130 rfl (hl.at 1 rfl) ?_
    refine lv_iload_n hx hb dX5_readRest_131 rfl (hl.at 2 rfl) ?_
    obtain ⟨u132, r132, hf⟩ := ob hf
    obtain ⟨q132, e132, hf⟩ := ob hf
    refine rw_callVi (As := [va_rf l1, .int l2]) X dX5_readRest_132 clX5_75 pyX5_readList (mX5_readList l hkN e132) (by omega) r132 rfl hP rfl (catL c1n (Nat.le_of_ble_eq_true rfl)) hl.1.1 (fun H locs hP => ?_)
    obtain ⟨z135, ez135, hf⟩ := ob hf
    obtain ⟨hz135, rfl⟩ := zr_some ez135
    cases hf
    exact rw_zret X hz135 dX5_readRest_135 hP
  have hf := ifn hf c4_5
  by_cases c4_6 : v1 = 6
  · have hf := ifp hf c4_6
    refine lv_tableIn (tgt := 129) hx hb dX5_readRest_4 (by rw [c4_6]; decide) (by rw [c4_6]; decide) (by rw [c4_6]; rfl) (by decide) ?_
    refine rw_aload_n X dX5_readRest_129 rfl (hl.at 0 rfl) ?_
    refine rw_aload_n X dX5_readRest_130 rfl (hl.at 1 rfl) ?_
    refine lv_iload_n hx hb dX5_readRest_131 rfl (hl.at 2 rfl) ?_
    obtain ⟨u132, r132, hf⟩ := ob hf
    obtain ⟨q132, e132, hf⟩ := ob hf
    refine rw_callVi (As := [va_rf l1, .int l2]) X dX5_readRest_132 clX5_75 pyX5_readList (mX5_readList l hkN e132) (by omega) r132 rfl hP rfl (catL c1n (Nat.le_of_ble_eq_true rfl)) hl.1.1 (fun H locs hP => ?_)
    obtain ⟨z135, ez135, hf⟩ := ob hf
    obtain ⟨hz135, rfl⟩ := zr_some ez135
    cases hf
    exact rw_zret X hz135 dX5_readRest_135 hP
  have hf := ifn hf c4_6
  by_cases c4_7 : v1 = 7
  · have hf := ifp hf c4_7
    refine lv_tableIn (tgt := 129) hx hb dX5_readRest_4 (by rw [c4_7]; decide) (by rw [c4_7]; decide) (by rw [c4_7]; rfl) (by decide) ?_
    refine rw_aload_n X dX5_readRest_129 rfl (hl.at 0 rfl) ?_
    refine rw_aload_n X dX5_readRest_130 rfl (hl.at 1 rfl) ?_
    refine lv_iload_n hx hb dX5_readRest_131 rfl (hl.at 2 rfl) ?_
    obtain ⟨u132, r132, hf⟩ := ob hf
    obtain ⟨q132, e132, hf⟩ := ob hf
    refine rw_callVi (As := [va_rf l1, .int l2]) X dX5_readRest_132 clX5_75 pyX5_readList (mX5_readList l hkN e132) (by omega) r132 rfl hP rfl (catL c1n (Nat.le_of_ble_eq_true rfl)) hl.1.1 (fun H locs hP => ?_)
    obtain ⟨z135, ez135, hf⟩ := ob hf
    obtain ⟨hz135, rfl⟩ := zr_some ez135
    cases hf
    exact rw_zret X hz135 dX5_readRest_135 hP
  have hf := ifn hf c4_7
  by_cases c4_8 : v1 = 8
  · have hf := ifp hf c4_8
    refine lv_tableIn (tgt := 136) hx hb dX5_readRest_4 (by rw [c4_8]; decide) (by rw [c4_8]; decide) (by rw [c4_8]; rfl) (by decide) ?_
    refine rw_aload_n X dX5_readRest_136 rfl (hl.at 0 rfl) ?_
    refine rw_aload_n X dX5_readRest_137 rfl (hl.at 1 rfl) ?_
    refine lv_iconst (v := 0) hx hb dX5_readRest_138 (by decide) ?_
    refine lv_bipush (v := 9) hx hb dX5_readRest_139 (by decide) ?_
    obtain ⟨u141, r141, hf⟩ := ob hf
    obtain ⟨q141, e141, hf⟩ := ob hf
    refine rw_callVi (As := [va_rf l1, .int 0, .int 9]) X dX5_readRest_141 clX5_55 pyX5_readNumber (mX5_readNumber l e141) (by omega) r141 rfl hP rfl (catL c1n (Nat.le_of_ble_eq_true rfl)) hl.1.1 (fun H locs hP => ?_)
    refine lv_if_eq hx hb (tgt := 160) dX5_readRest_144 (by decide) (fun c144 => ?_) (fun c144 => ?_)
    · have hf := ifp hf c144
      refine lv_iconst (v := 0) hx hb dX5_readRest_160 (by decide) ?_
      cases hf
      exact rw_zret X (by first | exact Or.inl rfl | exact Or.inr rfl) dX5_readRest_161 hP
    · have hf := ifn hf c144
      refine rw_aload_n X dX5_readRest_147 rfl (hl.at 0 rfl) ?_
      refine rw_aload_n X dX5_readRest_148 rfl (hl.at 1 rfl) ?_
      refine lv_iload_n hx hb dX5_readRest_149 rfl (hl.at 2 rfl) ?_
      obtain ⟨u150, r150, hf⟩ := ob hf
      obtain ⟨q150, e150, hf⟩ := ob hf
      refine rw_callVi (As := [va_rf l1, .int l2]) X dX5_readRest_150 clX5_75 pyX5_readList (mX5_readList l hkN e150) (by omega) r150 rfl hP rfl (catL c1n (Nat.le_of_ble_eq_true rfl)) hl.1.1 (fun H locs hP => ?_)
      refine lv_if_eq hx hb (tgt := 160) dX5_readRest_153 (by decide) (fun c153 => ?_) (fun c153 => ?_)
      · have hf := ifp hf c153
        refine lv_iconst (v := 0) hx hb dX5_readRest_160 (by decide) ?_
        cases hf
        exact rw_zret X (by first | exact Or.inl rfl | exact Or.inr rfl) dX5_readRest_161 hP
      · have hf := ifn hf c153
        refine lv_iconst (v := 1) hx hb dX5_readRest_156 (by decide) ?_
        refine lv_goto (tgt := 161) hx hb dX5_readRest_157 (by decide) ?_
        cases hf
        exact rw_zret X (by first | exact Or.inl rfl | exact Or.inr rfl) dX5_readRest_161 hP
  have hf := ifn hf c4_8
  by_cases c4_9 : v1 = 9
  · have hf := ifp hf c4_9
    refine lv_tableIn (tgt := 277) hx hb dX5_readRest_4 (by rw [c4_9]; decide) (by rw [c4_9]; decide) (by rw [c4_9]; rfl) (by decide) ?_
    exact wX5_readRest_277 X hkN S l0 l1 l2 hf _ _ _ hP (hl.sub [0, 1, 2] rfl)
  have hf := ifn hf c4_9
  by_cases c4_10 : v1 = 10
  · have hf := ifp hf c4_10
    refine lv_tableIn (tgt := 162) hx hb dX5_readRest_4 (by rw [c4_10]; decide) (by rw [c4_10]; decide) (by rw [c4_10]; rfl) (by decide) ?_
    exact wX5_readRest_162 X hkN S l0 l1 l2 hf _ _ _ hP (hl.sub [0, 1, 2] rfl)
  have hf := ifn hf c4_10
  by_cases c4_11 : v1 = 11
  · have hf := ifp hf c4_11
    refine lv_tableIn (tgt := 162) hx hb dX5_readRest_4 (by rw [c4_11]; decide) (by rw [c4_11]; decide) (by rw [c4_11]; rfl) (by decide) ?_
    exact wX5_readRest_162 X hkN S l0 l1 l2 hf _ _ _ hP (hl.sub [0, 1, 2] rfl)
  have hf := ifn hf c4_11
  by_cases c4_12 : v1 = 12
  · have hf := ifp hf c4_12
    refine lv_tableIn (tgt := 190) hx hb dX5_readRest_4 (by rw [c4_12]; decide) (by rw [c4_12]; decide) (by rw [c4_12]; rfl) (by decide) ?_
    refine rw_aload_n X dX5_readRest_190 rfl (hl.at 0 rfl) ?_
    refine rw_aload_n X dX5_readRest_191 rfl (hl.at 1 rfl) ?_
    refine rw_aload_n X dX5_readRest_192 rfl (hl.at 1 rfl) ?_
    obtain ⟨v193, e193, hf⟩ := ob hf
    refine rw_getR X dX5_readRest_193 fl5_63 e193 rfl hP ?_
    refine va_ldcS hx hb X.1.2.2.2.1 X.2.2.1.2.2.2.1 dX5_readRest_196 ?_
    obtain ⟨u198, r198, hf⟩ := ob hf
    obtain ⟨q198, e198, hf⟩ := ob hf
    refine rw_callVi (As := [va_rf l1, va_rf v193, .ref (G.2.2.1 1)]) X dX5_readRest_198 clX5_69 pyX5_readClause (mX5_readClause l e198 (by first | decide | assumption)) (by omega) r198 rfl hP rfl (catL c1n (Nat.le_of_ble_eq_true rfl)) hl.1.1 (fun H locs hP => ?_)
    refine lv_if_eq hx hb (tgt := 219) dX5_readRest_201 (by decide) (fun c201 => ?_) (fun c201 => ?_)
    · have hf := ifp hf c201
      refine lv_iconst (v := 0) hx hb dX5_readRest_219 (by decide) ?_
      cases hf
      exact rw_zret X (by first | exact Or.inl rfl | exact Or.inr rfl) dX5_readRest_220 hP
    · have hf := ifn hf c201
      refine rw_aload_n X dX5_readRest_204 rfl (hl.at 0 rfl) ?_
      refine rw_aload_n X dX5_readRest_205 rfl (hl.at 1 rfl) ?_
      refine lv_iload_n hx hb dX5_readRest_206 rfl (hl.at 2 rfl) ?_
      refine lv_iconst (v := 1) hx hb dX5_readRest_207 (by decide) ?_
      refine lv_iadd hx hb dX5_readRest_208 ?_
      obtain ⟨u209, r209, hf⟩ := ob hf
      obtain ⟨q209, e209, hf⟩ := ob hf
      refine rw_callVi (As := [va_rf l1, .int (l2 + 1)]) X dX5_readRest_209 clX5_28 pyX5_readNode (hkN _ _ _ _ _ e209) (by omega) r209 rfl hP rfl (catL c1n (Nat.le_of_ble_eq_true rfl)) hl.1.1 (fun H locs hP => ?_)
      refine lv_if_eq hx hb (tgt := 219) dX5_readRest_212 (by decide) (fun c212 => ?_) (fun c212 => ?_)
      · have hf := ifp hf c212
        refine lv_iconst (v := 0) hx hb dX5_readRest_219 (by decide) ?_
        cases hf
        exact rw_zret X (by first | exact Or.inl rfl | exact Or.inr rfl) dX5_readRest_220 hP
      · have hf := ifn hf c212
        refine lv_iconst (v := 1) hx hb dX5_readRest_215 (by decide) ?_
        refine lv_goto (tgt := 220) hx hb dX5_readRest_216 (by decide) ?_
        cases hf
        exact rw_zret X (by first | exact Or.inl rfl | exact Or.inr rfl) dX5_readRest_220 hP
  have hf := ifn hf c4_12
  by_cases c4_13 : v1 = 13
  · have hf := ifp hf c4_13
    refine lv_tableIn (tgt := 221) hx hb dX5_readRest_4 (by rw [c4_13]; decide) (by rw [c4_13]; decide) (by rw [c4_13]; rfl) (by decide) ?_
    refine rw_aload_n X dX5_readRest_221 rfl (hl.at 0 rfl) ?_
    refine rw_aload_n X dX5_readRest_222 rfl (hl.at 1 rfl) ?_
    refine lv_iconst (v := 0) hx hb dX5_readRest_223 (by decide) ?_
    refine lv_bipush (v := 9) hx hb dX5_readRest_224 (by decide) ?_
    obtain ⟨u226, r226, hf⟩ := ob hf
    obtain ⟨q226, e226, hf⟩ := ob hf
    refine rw_callVi (As := [va_rf l1, .int 0, .int 9]) X dX5_readRest_226 clX5_55 pyX5_readNumber (mX5_readNumber l e226) (by omega) r226 rfl hP rfl (catL c1n (Nat.le_of_ble_eq_true rfl)) hl.1.1 (fun H locs hP => ?_)
    refine lv_if_eq hx hb (tgt := 247) dX5_readRest_229 (by decide) (fun c229 => ?_) (fun c229 => ?_)
    · have hf := ifp hf c229
      refine lv_iconst (v := 0) hx hb dX5_readRest_247 (by decide) ?_
      cases hf
      exact rw_zret X (by first | exact Or.inl rfl | exact Or.inr rfl) dX5_readRest_248 hP
    · have hf := ifn hf c229
      refine rw_aload_n X dX5_readRest_232 rfl (hl.at 0 rfl) ?_
      refine rw_aload_n X dX5_readRest_233 rfl (hl.at 1 rfl) ?_
      refine lv_iload_n hx hb dX5_readRest_234 rfl (hl.at 2 rfl) ?_
      refine lv_iconst (v := 1) hx hb dX5_readRest_235 (by decide) ?_
      refine lv_iadd hx hb dX5_readRest_236 ?_
      obtain ⟨u237, r237, hf⟩ := ob hf
      obtain ⟨q237, e237, hf⟩ := ob hf
      refine rw_callVi (As := [va_rf l1, .int (l2 + 1)]) X dX5_readRest_237 clX5_28 pyX5_readNode (hkN _ _ _ _ _ e237) (by omega) r237 rfl hP rfl (catL c1n (Nat.le_of_ble_eq_true rfl)) hl.1.1 (fun H locs hP => ?_)
      refine lv_if_eq hx hb (tgt := 247) dX5_readRest_240 (by decide) (fun c240 => ?_) (fun c240 => ?_)
      · have hf := ifp hf c240
        refine lv_iconst (v := 0) hx hb dX5_readRest_247 (by decide) ?_
        cases hf
        exact rw_zret X (by first | exact Or.inl rfl | exact Or.inr rfl) dX5_readRest_248 hP
      · have hf := ifn hf c240
        refine lv_iconst (v := 1) hx hb dX5_readRest_243 (by decide) ?_
        refine lv_goto (tgt := 248) hx hb dX5_readRest_244 (by decide) ?_
        cases hf
        exact rw_zret X (by first | exact Or.inl rfl | exact Or.inr rfl) dX5_readRest_248 hP
  have hf := ifn hf c4_13
  by_cases c4_14 : v1 = 14
  · have hf := ifp hf c4_14
    refine lv_tableIn (tgt := 249) hx hb dX5_readRest_4 (by rw [c4_14]; decide) (by rw [c4_14]; decide) (by rw [c4_14]; rfl) (by decide) ?_
    refine rw_aload_n X dX5_readRest_249 rfl (hl.at 0 rfl) ?_
    refine rw_aload_n X dX5_readRest_250 rfl (hl.at 1 rfl) ?_
    refine lv_iconst (v := 0) hx hb dX5_readRest_251 (by decide) ?_
    refine lv_bipush (v := 7) hx hb dX5_readRest_252 (by decide) ?_
    obtain ⟨u254, r254, hf⟩ := ob hf
    obtain ⟨q254, e254, hf⟩ := ob hf
    refine rw_callVi (As := [va_rf l1, .int 0, .int 7]) X dX5_readRest_254 clX5_55 pyX5_readNumber (mX5_readNumber l e254) (by omega) r254 rfl hP rfl (catL c1n (Nat.le_of_ble_eq_true rfl)) hl.1.1 (fun H locs hP => ?_)
    refine lv_if_eq hx hb (tgt := 275) dX5_readRest_257 (by decide) (fun c257 => ?_) (fun c257 => ?_)
    · have hf := ifp hf c257
      refine lv_iconst (v := 0) hx hb dX5_readRest_275 (by decide) ?_
      cases hf
      exact rw_zret X (by first | exact Or.inl rfl | exact Or.inr rfl) dX5_readRest_276 hP
    · have hf := ifn hf c257
      refine rw_aload_n X dX5_readRest_260 rfl (hl.at 0 rfl) ?_
      refine rw_aload_n X dX5_readRest_261 rfl (hl.at 1 rfl) ?_
      refine lv_iload_n hx hb dX5_readRest_262 rfl (hl.at 2 rfl) ?_
      refine lv_iconst (v := 1) hx hb dX5_readRest_263 (by decide) ?_
      refine lv_iadd hx hb dX5_readRest_264 ?_
      obtain ⟨u265, r265, hf⟩ := ob hf
      obtain ⟨q265, e265, hf⟩ := ob hf
      refine rw_callVi (As := [va_rf l1, .int (l2 + 1)]) X dX5_readRest_265 clX5_28 pyX5_readNode (hkN _ _ _ _ _ e265) (by omega) r265 rfl hP rfl (catL c1n (Nat.le_of_ble_eq_true rfl)) hl.1.1 (fun H locs hP => ?_)
      refine lv_if_eq hx hb (tgt := 275) dX5_readRest_268 (by decide) (fun c268 => ?_) (fun c268 => ?_)
      · have hf := ifp hf c268
        refine lv_iconst (v := 0) hx hb dX5_readRest_275 (by decide) ?_
        cases hf
        exact rw_zret X (by first | exact Or.inl rfl | exact Or.inr rfl) dX5_readRest_276 hP
      · have hf := ifn hf c268
        refine lv_iconst (v := 1) hx hb dX5_readRest_271 (by decide) ?_
        refine lv_goto (tgt := 276) hx hb dX5_readRest_272 (by decide) ?_
        cases hf
        exact rw_zret X (by first | exact Or.inl rfl | exact Or.inr rfl) dX5_readRest_276 hP
  have hf := ifn hf c4_14
  have t4_0 := tsw (k := 0) (v := 0) (by decide) c4_0
  have t4_1 := tsw (k := 1) (v := 1) (by decide) c4_1
  have t4_2 := tsw (k := 2) (v := 2) (by decide) c4_2
  have t4_3 := tsw (k := 3) (v := 3) (by decide) c4_3
  have t4_4 := tsw (k := 4) (v := 4) (by decide) c4_4
  have t4_5 := tsw (k := 5) (v := 5) (by decide) c4_5
  have t4_6 := tsw (k := 6) (v := 6) (by decide) c4_6
  have t4_7 := tsw (k := 7) (v := 7) (by decide) c4_7
  have t4_8 := tsw (k := 8) (v := 8) (by decide) c4_8
  have t4_9 := tsw (k := 9) (v := 9) (by decide) c4_9
  have t4_10 := tsw (k := 10) (v := 10) (by decide) c4_10
  have t4_11 := tsw (k := 11) (v := 11) (by decide) c4_11
  have t4_12 := tsw (k := 12) (v := 12) (by decide) c4_12
  have t4_13 := tsw (k := 13) (v := 13) (by decide) c4_13
  have t4_14 := tsw (k := 14) (v := 14) (by decide) c4_14
  refine lv_tableOut (tgt := 277) hx hb dX5_readRest_4 (by omega) (by decide) ?_
  exact wX5_readRest_277 X hkN S l0 l1 l2 hf _ _ _ hP (hl.sub [0, 1, 2] rfl)
theorem dX5_readNode_0 : decode cX5_readNode 0 = .ok (.aload_n 0, 1) := by decide +kernel
theorem dX5_readNode_1 : decode cX5_readNode 1 = .ok (.ldc 37, 2) := by decide +kernel
theorem dX5_readNode_3 : decode cX5_readNode 3 = .ok (.invokevirtual 39, 3) := by decide +kernel
theorem dX5_readNode_6 : decode cX5_readNode 6 = .ok (.istore_n 3, 1) := by decide +kernel
theorem dX5_readNode_7 : decode cX5_readNode 7 = .ok (.iload_n 3, 1) := by decide +kernel
theorem dX5_readNode_8 : decode cX5_readNode 8 = .ok (.ifCond .lt 9, 3) := by decide +kernel
theorem dX5_readNode_11 : decode cX5_readNode 11 = .ok (.iload_n 2, 1) := by decide +kernel
theorem dX5_readNode_12 : decode cX5_readNode 12 = .ok (.bipush 10, 2) := by decide +kernel
theorem dX5_readNode_14 : decode cX5_readNode 14 = .ok (.if_icmp .le 5, 3) := by decide +kernel
theorem dX5_readNode_17 : decode cX5_readNode 17 = .ok (.iconst 0, 1) := by decide +kernel
theorem dX5_readNode_18 : decode cX5_readNode 18 = .ok (.ireturn, 1) := by decide +kernel
theorem dX5_readNode_19 : decode cX5_readNode 19 = .ok (.aload_n 0, 1) := by decide +kernel
theorem dX5_readNode_20 : decode cX5_readNode 20 = .ok (.getfield 19, 3) := by decide +kernel
theorem dX5_readNode_23 : decode cX5_readNode 23 = .ok (.iload_n 3, 1) := by decide +kernel
theorem dX5_readNode_24 : decode cX5_readNode 24 = .ok (.aload_n 1, 1) := by decide +kernel
theorem dX5_readNode_25 : decode cX5_readNode 25 = .ok (.invokevirtual 43, 3) := by decide +kernel
theorem dX5_readNode_28 : decode cX5_readNode 28 = .ok (.astore 4, 2) := by decide +kernel
theorem dX5_readNode_30 : decode cX5_readNode 30 = .ok (.aload 4, 2) := by decide +kernel
theorem dX5_readNode_32 : decode cX5_readNode 32 = .ok (.ifnonnull 5, 3) := by decide +kernel
theorem dX5_readNode_35 : decode cX5_readNode 35 = .ok (.iconst 0, 1) := by decide +kernel
theorem dX5_readNode_36 : decode cX5_readNode 36 = .ok (.ireturn, 1) := by decide +kernel
theorem dX5_readNode_37 : decode cX5_readNode 37 = .ok (.aload_n 0, 1) := by decide +kernel
theorem dX5_readNode_38 : decode cX5_readNode 38 = .ok (.dup, 1) := by decide +kernel
theorem dX5_readNode_39 : decode cX5_readNode 39 = .ok (.getfield 9, 3) := by decide +kernel
theorem dX5_readNode_42 : decode cX5_readNode 42 = .ok (.iconst 1, 1) := by decide +kernel
theorem dX5_readNode_43 : decode cX5_readNode 43 = .ok (.iadd, 1) := by decide +kernel
theorem dX5_readNode_44 : decode cX5_readNode 44 = .ok (.putfield 9, 3) := by decide +kernel
theorem dX5_readNode_47 : decode cX5_readNode 47 = .ok (.aload_n 0, 1) := by decide +kernel
theorem dX5_readNode_48 : decode cX5_readNode 48 = .ok (.aload 4, 2) := by decide +kernel
theorem dX5_readNode_50 : decode cX5_readNode 50 = .ok (.iload_n 2, 1) := by decide +kernel
theorem dX5_readNode_51 : decode cX5_readNode 51 = .ok (.invokevirtual 47, 3) := by decide +kernel
theorem dX5_readNode_54 : decode cX5_readNode 54 = .ok (.ireturn, 1) := by decide +kernel
def fX5_readNode (Y : LY) : Nat → HS → Option Nat → Option Nat → Int32 → Option (HS × Int32)
  | 0, _, _, _, _ => none
  | d + 1, S, l0, l1, l2 =>
    (rcv Y 5 l0).bind fun _ =>
    (fX5_placeIn Y S l0 0).bind fun v3 =>
    if v3 < 0 then
      some (S, 0)
    else
      if l2 ≤ 10 then
        (gR Y 5 501 l0 S).bind fun v20 =>
        (rcv Y 8 v20).bind fun _ =>
        (fX8_grow Y S v20 v3 l1).bind fun q25 =>
        if q25.2 = none then
          some (q25.1, 0)
        else
          (gI Y 5 502 l0 q25.1).bind fun v39 =>
          (pI Y 5 502 l0 (v39 + 1) q25.1).bind fun S44 =>
          (rcv Y 5 l0).bind fun _ =>
          (fX5_readRest (fX5_readNode Y d) Y S44 l0 q25.2 l2).bind fun q51 =>
          (zr q51.2).bind fun z54 =>
          some (q51.1, z54)
      else
        some (S, 0)
set_option maxRecDepth 100000 in
set_option maxHeartbeats 4000000 in
theorem mX5_readNode (l : Launch) {G : GG} {Y : LY} : ∀ (d : Nat) (S : HS) (l0 : Option Nat) (l1 : Option Nat) (l2 : Int32) (res : HS × Int32), fX5_readNode Y d S l0 l1 l2 = some res → MM l yX5_readNode cX5_readNode 5 (some .boolean) (36 * d) (2000 * d) G Y S [va_rf l0, va_rf l1, .int l2] res.1 (some (.int res.2)) := by
  intro d
  induction d with
  | zero =>
    intro S l0 l1 l2 res hf
    cases hf
  | succ d ih =>
  intro S l0 l1 l2 res hf
  refine mm_of2 (plainFor_of_name (by decide +kernel)) (Nat.le_of_ble_eq_true rfl) (c1c (cr _) (c1c (cr _) (c1c (ci _) c1n))) ?_
  intro p e R s m args below meth c X H locs ls hP hl
  have X : Cx p R s m args meth c RX5 cX5_readNode 5 (36 * (d + 1)) (2000 * (d + 1)) (fun q => q ∈ Y.1) G (some .boolean) := X
  have hx := X.1.1
  have hb := X.1.2.1
  have hl : LV ls 5 [(0, va_rf l0), (1, va_rf l1), (2, .int l2)] := hl
  rw [fX5_readNode] at hf
  refine rw_aload_n X dX5_readNode_0 rfl (hl.at 0 rfl) ?_
  refine va_ldcS hx hb X.1.2.2.2.1 X.2.2.1.2.2.1 dX5_readNode_1 ?_
  obtain ⟨u3, r3, hf⟩ := ob hf
  obtain ⟨v3, e3, hf⟩ := ob hf
  refine rw_callVi (As := [.ref (G.2.2.1 0)]) X dX5_readNode_3 clX5_39 pyX5_placeIn (mX5_placeIn l e3 (by first | decide | assumption)) (by omega) r3 rfl hP rfl (catL c1n (Nat.le_of_ble_eq_true rfl)) hl.1.1 (fun H locs hP => ?_)
  refine rv_istore_n X dX5_readNode_6 rfl hl (by decide) rfl (fun ls hl => ?_)
  have hl : LV ls 5 [(3, .int v3), (0, va_rf l0), (1, va_rf l1), (2, .int l2)] := hl
  refine lv_iload_n hx hb dX5_readNode_7 rfl (hl.at 0 rfl) ?_
  refine lv_if_lt hx hb (tgt := 17) dX5_readNode_8 (by decide) (fun c8 => ?_) (fun c8 => ?_)
  · have hf := ifp hf c8
    refine lv_iconst (v := 0) hx hb dX5_readNode_17 (by decide) ?_
    cases hf
    exact rw_zret X (by first | exact Or.inl rfl | exact Or.inr rfl) dX5_readNode_18 hP
  · have hf := ifn hf c8
    refine lv_iload_n hx hb dX5_readNode_11 rfl (hl.at 3 rfl) ?_
    refine lv_bipush (v := 10) hx hb dX5_readNode_12 (by decide) ?_
    refine lv_icmp_le hx hb (tgt := 19) dX5_readNode_14 (by decide) (fun c14 => ?_) (fun c14 => ?_)
    · have hf := ifp hf c14
      refine rw_aload_n X dX5_readNode_19 rfl (hl.at 1 rfl) ?_
      obtain ⟨v20, e20, hf⟩ := ob hf
      refine rw_getR X dX5_readNode_20 fl5_19 e20 rfl hP ?_
      refine lv_iload_n hx hb dX5_readNode_23 rfl (hl.at 0 rfl) ?_
      refine rw_aload_n X dX5_readNode_24 rfl (hl.at 2 rfl) ?_
      obtain ⟨u25, r25, hf⟩ := ob hf
      obtain ⟨q25, e25, hf⟩ := ob hf
      refine rw_callVr (As := [.int v3, va_rf l1]) X dX5_readNode_25 clX5_43 pyX8_grow (mX8_grow l e25) (by omega) r25 rfl hP rfl (catL c1n (Nat.le_of_ble_eq_true rfl)) hl.1.1 (fun H locs hP => ?_)
      refine rv_astore X dX5_readNode_28 hl (by decide) rfl (fun ls hl => ?_)
      have hl : LV ls 5 [(4, va_rf q25.2), (3, .int v3), (0, va_rf l0), (1, va_rf l1), (2, .int l2)] := hl
      refine rw_aload X dX5_readNode_30 (hl.at 0 rfl) ?_
      refine rw_ifnonnull X (tgt := 37) dX5_readNode_32 (by decide) (fun c32 => ?_) (fun c32 => ?_)
      · have hf := ifn hf c32
        refine rw_aload_n X dX5_readNode_37 rfl (hl.at 2 rfl) ?_
        refine lv_dup hx hb dX5_readNode_38 (cr _) ?_
        obtain ⟨v39, e39, hf⟩ := ob hf
        refine rw_getI X dX5_readNode_39 fl5_9 e39 rfl hP ?_
        refine lv_iconst (v := 1) hx hb dX5_readNode_42 (by decide) ?_
        refine lv_iadd hx hb dX5_readNode_43 ?_
        obtain ⟨S44, e44, hf⟩ := ob hf
        refine rw_putI X dX5_readNode_44 fl5_9 fw5_2 e44 rfl hP (fun H locs hP => ?_)
        refine rw_aload_n X dX5_readNode_47 rfl (hl.at 2 rfl) ?_
        refine rw_aload X dX5_readNode_48 (hl.at 0 rfl) ?_
        refine lv_iload_n hx hb dX5_readNode_50 rfl (hl.at 4 rfl) ?_
        obtain ⟨u51, r51, hf⟩ := ob hf
        obtain ⟨q51, e51, hf⟩ := ob hf
        refine rw_callVi (As := [va_rf q25.2, .int l2]) X dX5_readNode_51 clX5_47 pyX5_readRest (mX5_readRest l ih e51) (by omega) r51 rfl hP rfl (catL c1n (Nat.le_of_ble_eq_true rfl)) hl.1.1 (fun H locs hP => ?_)
        obtain ⟨z54, ez54, hf⟩ := ob hf
        obtain ⟨hz54, rfl⟩ := zr_some ez54
        cases hf
        exact rw_zret X hz54 dX5_readNode_54 hP
      · have hf := ifp hf c32
        refine lv_iconst (v := 0) hx hb dX5_readNode_35 (by decide) ?_
        cases hf
        exact rw_zret X (by first | exact Or.inl rfl | exact Or.inr rfl) dX5_readNode_36 hP
    · have hf := ifn hf c14
      refine lv_iconst (v := 0) hx hb dX5_readNode_17 (by decide) ?_
      cases hf
      exact rw_zret X (by first | exact Or.inl rfl | exact Or.inr rfl) dX5_readNode_18 hP
theorem dX5_parse_0 : decode cX5_parse 0 = .ok (.aload_n 0, 1) := by decide +kernel
theorem dX5_parse_1 : decode cX5_parse 1 = .ok (.getfield 19, 3) := by decide +kernel
theorem dX5_parse_4 : decode cX5_parse 4 = .ok (.iconst 0, 1) := by decide +kernel
theorem dX5_parse_5 : decode cX5_parse 5 = .ok (.putfield 23, 3) := by decide +kernel
theorem dX5_parse_8 : decode cX5_parse 8 = .ok (.aload_n 0, 1) := by decide +kernel
theorem dX5_parse_9 : decode cX5_parse 9 = .ok (.aconst_null, 1) := by decide +kernel
theorem dX5_parse_10 : decode cX5_parse 10 = .ok (.iconst 1, 1) := by decide +kernel
theorem dX5_parse_11 : decode cX5_parse 11 = .ok (.invokevirtual 28, 3) := by decide +kernel
theorem dX5_parse_14 : decode cX5_parse 14 = .ok (.ifCond .eq 21, 3) := by decide +kernel
theorem dX5_parse_17 : decode cX5_parse 17 = .ok (.aload_n 0, 1) := by decide +kernel
theorem dX5_parse_18 : decode cX5_parse 18 = .ok (.getfield 9, 3) := by decide +kernel
theorem dX5_parse_21 : decode cX5_parse 21 = .ok (.aload_n 0, 1) := by decide +kernel
theorem dX5_parse_22 : decode cX5_parse 22 = .ok (.getfield 15, 3) := by decide +kernel
theorem dX5_parse_25 : decode cX5_parse 25 = .ok (.getfield 32, 3) := by decide +kernel
theorem dX5_parse_28 : decode cX5_parse 28 = .ok (.if_icmp .ne 7, 3) := by decide +kernel
theorem dX5_parse_31 : decode cX5_parse 31 = .ok (.iconst 1, 1) := by decide +kernel
theorem dX5_parse_32 : decode cX5_parse 32 = .ok (.goto 4, 3) := by decide +kernel
theorem dX5_parse_35 : decode cX5_parse 35 = .ok (.iconst 0, 1) := by decide +kernel
theorem dX5_parse_36 : decode cX5_parse 36 = .ok (.istore_n 1, 1) := by decide +kernel
theorem dX5_parse_37 : decode cX5_parse 37 = .ok (.iload_n 1, 1) := by decide +kernel
theorem dX5_parse_38 : decode cX5_parse 38 = .ok (.ifCond .eq 13, 3) := by decide +kernel
theorem dX5_parse_41 : decode cX5_parse 41 = .ok (.aload_n 0, 1) := by decide +kernel
theorem dX5_parse_42 : decode cX5_parse 42 = .ok (.getfield 19, 3) := by decide +kernel
theorem dX5_parse_45 : decode cX5_parse 45 = .ok (.getfield 23, 3) := by decide +kernel
theorem dX5_parse_48 : decode cX5_parse 48 = .ok (.goto 11, 3) := by decide +kernel
theorem dX5_parse_51 : decode cX5_parse 51 = .ok (.sipush (-2000), 3) := by decide +kernel
theorem dX5_parse_54 : decode cX5_parse 54 = .ok (.aload_n 0, 1) := by decide +kernel
theorem dX5_parse_55 : decode cX5_parse 55 = .ok (.getfield 9, 3) := by decide +kernel
theorem dX5_parse_58 : decode cX5_parse 58 = .ok (.isub, 1) := by decide +kernel
theorem dX5_parse_59 : decode cX5_parse 59 = .ok (.ireturn, 1) := by decide +kernel
theorem pyX5_parse : PY yX5_parse 0 := ⟨by decide +kernel, by decide +kernel, by decide +kernel⟩
def fX5_parse_36 (Y : LY) (S : HS) (l0 : Option Nat) (s0 : Int32) : Option (HS × Int32) :=
  if s0 = 0 then
    (gI Y 5 502 l0 S).bind fun v55 =>
    some (S, ((-2000) - v55))
  else
    (gR Y 5 501 l0 S).bind fun v42 =>
    (gI Y 8 801 v42 S).bind fun v45 =>
    some (S, v45)
set_option maxRecDepth 100000 in
set_option maxHeartbeats 4000000 in
theorem wX5_parse_36 {p : Program} {l : Launch} {e : Env} {R : Room} {s : State} {m : MethodId} {args : Array Value} {below : List Frame} {meth : Method} {c : Code} {G : GG} {Y : LY} {res : HS × Int32} (X : Cx p R s m args meth c RX5 cX5_parse 2 433 24024 (fun q => q ∈ Y.1) G (some .int)) : ∀ (S : HS) (l0 : Option Nat) (s0 : Int32), fX5_parse_36 Y S l0 s0 = some res → ∀ (H : Heap) (locs : List Loc) (ls : Array Slot), HP (fun q => q ∈ Y.1) G Y s S H locs → LV ls 2 [(0, va_rf l0)] → W p l e R s m args below meth c H locs 0 0 (MQ below (QI G Y res.1 (some (.int res.2))) args s 0 0 (fun q => q ∈ Y.1)) (F0 m 36 ls (.int s0 :: [])) := by
  have hx := X.1.1
  have hb := X.1.2.1
  intro S l0 s0 hf H locs ls hP hl
  unfold fX5_parse_36 at hf
  refine rv_istore_n X dX5_parse_36 rfl hl (by decide) rfl (fun ls hl => ?_)
  have hl : LV ls 2 [(1, .int s0), (0, va_rf l0)] := hl
  refine lv_iload_n hx hb dX5_parse_37 rfl (hl.at 0 rfl) ?_
  refine lv_if_eq hx hb (tgt := 51) dX5_parse_38 (by decide) (fun c38 => ?_) (fun c38 => ?_)
  · have hf := ifp hf c38
    refine lv_sipush (v := (-2000)) hx hb dX5_parse_51 (by decide) ?_
    refine rw_aload_n X dX5_parse_54 rfl (hl.at 1 rfl) ?_
    obtain ⟨v55, e55, hf⟩ := ob hf
    refine rw_getI X dX5_parse_55 fl5_9 e55 rfl hP ?_
    refine lv_isub hx hb dX5_parse_58 ?_
    cases hf
    exact rw_iret X dX5_parse_59 hP
  · have hf := ifn hf c38
    refine rw_aload_n X dX5_parse_41 rfl (hl.at 1 rfl) ?_
    obtain ⟨v42, e42, hf⟩ := ob hf
    refine rw_getR X dX5_parse_42 fl5_19 e42 rfl hP ?_
    obtain ⟨v45, e45, hf⟩ := ob hf
    refine rw_getI X dX5_parse_45 fl5_23 e45 rfl hP ?_
    refine lv_goto (tgt := 59) hx hb dX5_parse_48 (by decide) ?_
    cases hf
    exact rw_iret X dX5_parse_59 hP
def fX5_parse (Y : LY) (S : HS) (l0 : Option Nat) : Option (HS × Int32) :=
  (gR Y 5 501 l0 S).bind fun v1 =>
  (pI Y 8 801 v1 0 S).bind fun S5 =>
  (rcv Y 5 l0).bind fun _ =>
  (fX5_readNode Y 12 S5 l0 none 1).bind fun q11 =>
  if q11.2 = 0 then
    fX5_parse_36 Y q11.1 l0 0
  else
    (gI Y 5 502 l0 q11.1).bind fun v18 =>
    (gR Y 5 500 l0 q11.1).bind fun v22 =>
    (gI Y 7 701 v22 q11.1).bind fun v25 =>
    if v18 = v25 then
      fX5_parse_36 Y q11.1 l0 1
    else
      fX5_parse_36 Y q11.1 l0 0
set_option maxRecDepth 100000 in
set_option maxHeartbeats 4000000 in
theorem mX5_parse (l : Launch) {G : GG} {Y : LY} {S : HS} {l0 : Option Nat} {res : HS × Int32} (hf : fX5_parse Y S l0 = some res) : MM l yX5_parse cX5_parse 2 (some .int) 433 24024 G Y S [va_rf l0] res.1 (some (.int res.2)) := by
  refine mm_of2 (plainFor_of_name (by decide +kernel)) (Nat.le_of_ble_eq_true rfl) (c1c (cr _) c1n) ?_
  intro p e R s m args below meth c X H locs ls hP hl
  have X : Cx p R s m args meth c RX5 cX5_parse 2 433 24024 (fun q => q ∈ Y.1) G (some .int) := X
  have hx := X.1.1
  have hb := X.1.2.1
  have hl : LV ls 2 [(0, va_rf l0)] := hl
  unfold fX5_parse at hf
  refine rw_aload_n X dX5_parse_0 rfl (hl.at 0 rfl) ?_
  obtain ⟨v1, e1, hf⟩ := ob hf
  refine rw_getR X dX5_parse_1 fl5_19 e1 rfl hP ?_
  refine lv_iconst (v := 0) hx hb dX5_parse_4 (by decide) ?_
  obtain ⟨S5, e5, hf⟩ := ob hf
  refine rw_putI X dX5_parse_5 fl5_23 fw8_1 e5 rfl hP (fun H locs hP => ?_)
  refine rw_aload_n X dX5_parse_8 rfl (hl.at 0 rfl) ?_
  refine lv_null hx hb dX5_parse_9 ?_
  refine W.eq (g2 := F0 m 10 ls (va_rf none :: (va_rf l0 :: []))) rfl ?_
  refine lv_iconst (v := 1) hx hb dX5_parse_10 (by decide) ?_
  obtain ⟨u11, r11, hf⟩ := ob hf
  obtain ⟨q11, e11, hf⟩ := ob hf
  refine rw_callVi (As := [va_rf none, .int 1]) X dX5_parse_11 clX5_28 pyX5_readNode (mX5_readNode l 12 _ _ _ _ _ e11) (by decide) r11 rfl hP rfl (catL c1n (Nat.le_of_ble_eq_true rfl)) hl.1.1 (fun H locs hP => ?_)
  refine lv_if_eq hx hb (tgt := 35) dX5_parse_14 (by decide) (fun c14 => ?_) (fun c14 => ?_)
  · have hf := ifp hf c14
    refine lv_iconst (v := 0) hx hb dX5_parse_35 (by decide) ?_
    exact wX5_parse_36 X q11.1 l0 0 hf _ _ _ hP (hl.sub [0] rfl)
  · have hf := ifn hf c14
    refine rw_aload_n X dX5_parse_17 rfl (hl.at 0 rfl) ?_
    obtain ⟨v18, e18, hf⟩ := ob hf
    refine rw_getI X dX5_parse_18 fl5_9 e18 rfl hP ?_
    refine rw_aload_n X dX5_parse_21 rfl (hl.at 0 rfl) ?_
    obtain ⟨v22, e22, hf⟩ := ob hf
    refine rw_getR X dX5_parse_22 fl5_15 e22 rfl hP ?_
    obtain ⟨v25, e25, hf⟩ := ob hf
    refine rw_getI X dX5_parse_25 fl5_32 e25 rfl hP ?_
    refine lv_icmp_ne hx hb (tgt := 35) dX5_parse_28 (by decide) (fun c28 => ?_) (fun c28 => ?_)
    · have hf := ifn hf c28
      refine lv_iconst (v := 0) hx hb dX5_parse_35 (by decide) ?_
      exact wX5_parse_36 X q11.1 l0 0 hf _ _ _ hP (hl.sub [0] rfl)
    · have hf := ifp hf c28
      refine lv_iconst (v := 1) hx hb dX5_parse_31 (by decide) ?_
      refine lv_goto (tgt := 36) hx hb dX5_parse_32 (by decide) ?_
      exact wX5_parse_36 X q11.1 l0 1 hf _ _ _ hP (hl.sub [0] rfl)
end
