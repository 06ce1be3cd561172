section
-- ===== PART A: goes FIRST, ahead of the names: the tables' words, and 'selects' of the private methods out of them =====
/-- a private method of a class that the tables say can be made, by its rows of tables_1 -/
def lw_okq (q : MethodName × Nat) : Prop := (q.1.cls ≠ "java/lang/invoke/MethodHandle" ∧ q.1.cls ≠ "java/lang/invoke/VarHandle") ∧ Cond.instantiable q.1.cls q.2 ∈ tables_1 ∧ Cond.privateMethod q.1 ∈ tables_1 ∧ Cond.instanceMethod q.1 ∈ tables_1
theorem lw_p0 : lw_okq (⟨"BehaviorRunner$Parser", "readNode", "(LBehaviorRunner$Node;I)Z"⟩, 3) := ⟨⟨by decide +kernel, by decide +kernel⟩, List.mem_of_getElem? (i := 384) (by decide +kernel), List.mem_of_getElem? (i := 404) (by decide +kernel), List.mem_of_getElem? (i := 405) (by decide +kernel)⟩
theorem lw_p1 : lw_okq (⟨"BehaviorRunner$Parser", "placeIn", "(Ljava/lang/String;)I"⟩, 3) := ⟨⟨by decide +kernel, by decide +kernel⟩, List.mem_of_getElem? (i := 384) (by decide +kernel), List.mem_of_getElem? (i := 409) (by decide +kernel), List.mem_of_getElem? (i := 410) (by decide +kernel)⟩
theorem lw_p2 : lw_okq (⟨"BehaviorRunner$Parser", "readRest", "(LBehaviorRunner$Node;I)Z"⟩, 3) := ⟨⟨by decide +kernel, by decide +kernel⟩, List.mem_of_getElem? (i := 384) (by decide +kernel), List.mem_of_getElem? (i := 527) (by decide +kernel), List.mem_of_getElem? (i := 528) (by decide +kernel)⟩
theorem lw_p3 : lw_okq (⟨"BehaviorRunner$Parser", "readNumber", "(LBehaviorRunner$Node;II)Z"⟩, 3) := ⟨⟨by decide +kernel, by decide +kernel⟩, List.mem_of_getElem? (i := 384) (by decide +kernel), List.mem_of_getElem? (i := 531) (by decide +kernel), List.mem_of_getElem? (i := 532) (by decide +kernel)⟩
theorem lw_p4 : lw_okq (⟨"BehaviorRunner$Parser", "readDigit", "(II)I"⟩, 3) := ⟨⟨by decide +kernel, by decide +kernel⟩, List.mem_of_getElem? (i := 384) (by decide +kernel), List.mem_of_getElem? (i := 535) (by decide +kernel), List.mem_of_getElem? (i := 536) (by decide +kernel)⟩
theorem lw_p5 : lw_okq (⟨"BehaviorRunner$Parser", "readEffects", "(LBehaviorRunner$Node;)Z"⟩, 3) := ⟨⟨by decide +kernel, by decide +kernel⟩, List.mem_of_getElem? (i := 384) (by decide +kernel), List.mem_of_getElem? (i := 539) (by decide +kernel), List.mem_of_getElem? (i := 540) (by decide +kernel)⟩
theorem lw_p6 : lw_okq (⟨"BehaviorRunner$Parser", "readClause", "(LBehaviorRunner$Node;LBehaviorRunner$Clause;Ljava/lang/String;)Z"⟩, 3) := ⟨⟨by decide +kernel, by decide +kernel⟩, List.mem_of_getElem? (i := 384) (by decide +kernel), List.mem_of_getElem? (i := 544) (by decide +kernel), List.mem_of_getElem? (i := 545) (by decide +kernel)⟩
theorem lw_p7 : lw_okq (⟨"BehaviorRunner$Parser", "skip", "(C)Z"⟩, 3) := ⟨⟨by decide +kernel, by decide +kernel⟩, List.mem_of_getElem? (i := 384) (by decide +kernel), List.mem_of_getElem? (i := 573) (by decide +kernel), List.mem_of_getElem? (i := 574) (by decide +kernel)⟩
theorem lw_p8 : lw_okq (⟨"BehaviorRunner$Parser", "readList", "(LBehaviorRunner$Node;I)Z"⟩, 3) := ⟨⟨by decide +kernel, by decide +kernel⟩, List.mem_of_getElem? (i := 384) (by decide +kernel), List.mem_of_getElem? (i := 578) (by decide +kernel), List.mem_of_getElem? (i := 579) (by decide +kernel)⟩
theorem lw_p9 : lw_okq (⟨"BehaviorRunner$Walker", "beginVisit", "(LBehaviorRunner$Node;)I"⟩, 2) := ⟨⟨by decide +kernel, by decide +kernel⟩, List.mem_of_getElem? (i := 46) (by decide +kernel), List.mem_of_getElem? (i := 617) (by decide +kernel), List.mem_of_getElem? (i := 618) (by decide +kernel)⟩
theorem lw_p10 : lw_okq (⟨"BehaviorRunner$Walker", "beginRun", "(LBehaviorRunner$Node;)V"⟩, 2) := ⟨⟨by decide +kernel, by decide +kernel⟩, List.mem_of_getElem? (i := 46) (by decide +kernel), List.mem_of_getElem? (i := 621) (by decide +kernel), List.mem_of_getElem? (i := 622) (by decide +kernel)⟩
theorem lw_p11 : lw_okq (⟨"BehaviorRunner$Walker", "act", "(LBehaviorRunner$Node;I)I"⟩, 2) := ⟨⟨by decide +kernel, by decide +kernel⟩, List.mem_of_getElem? (i := 46) (by decide +kernel), List.mem_of_getElem? (i := 625) (by decide +kernel), List.mem_of_getElem? (i := 626) (by decide +kernel)⟩
theorem lw_p12 : lw_okq (⟨"BehaviorRunner$Walker", "goDown", "(LBehaviorRunner$Node;)I"⟩, 2) := ⟨⟨by decide +kernel, by decide +kernel⟩, List.mem_of_getElem? (i := 46) (by decide +kernel), List.mem_of_getElem? (i := 641) (by decide +kernel), List.mem_of_getElem? (i := 642) (by decide +kernel)⟩
theorem lw_p13 : lw_okq (⟨"BehaviorRunner$Walker", "goOnInParallel", "(LBehaviorRunner$Node;LBehaviorRunner$Node;)I"⟩, 2) := ⟨⟨by decide +kernel, by decide +kernel⟩, List.mem_of_getElem? (i := 46) (by decide +kernel), List.mem_of_getElem? (i := 645) (by decide +kernel), List.mem_of_getElem? (i := 646) (by decide +kernel)⟩
theorem lw_p14 : lw_okq (⟨"BehaviorRunner$Walker", "endRun", "(LBehaviorRunner$Node;I)V"⟩, 2) := ⟨⟨by decide +kernel, by decide +kernel⟩, List.mem_of_getElem? (i := 46) (by decide +kernel), List.mem_of_getElem? (i := 653) (by decide +kernel), List.mem_of_getElem? (i := 654) (by decide +kernel)⟩
theorem lw_p15 : lw_okq (⟨"BehaviorRunner$Walker", "goDownIf", "(ZLBehaviorRunner$Node;)I"⟩, 2) := ⟨⟨by decide +kernel, by decide +kernel⟩, List.mem_of_getElem? (i := 46) (by decide +kernel), List.mem_of_getElem? (i := 664) (by decide +kernel), List.mem_of_getElem? (i := 665) (by decide +kernel)⟩
def lw_privs_1 : List (MethodName × Nat) := [(⟨"BehaviorRunner$Parser", "readNode", "(LBehaviorRunner$Node;I)Z"⟩, 3), (⟨"BehaviorRunner$Parser", "placeIn", "(Ljava/lang/String;)I"⟩, 3), (⟨"BehaviorRunner$Parser", "readRest", "(LBehaviorRunner$Node;I)Z"⟩, 3), (⟨"BehaviorRunner$Parser", "readNumber", "(LBehaviorRunner$Node;II)Z"⟩, 3), (⟨"BehaviorRunner$Parser", "readDigit", "(II)I"⟩, 3), (⟨"BehaviorRunner$Parser", "readEffects", "(LBehaviorRunner$Node;)Z"⟩, 3), (⟨"BehaviorRunner$Parser", "readClause", "(LBehaviorRunner$Node;LBehaviorRunner$Clause;Ljava/lang/String;)Z"⟩, 3), (⟨"BehaviorRunner$Parser", "skip", "(C)Z"⟩, 3), (⟨"BehaviorRunner$Parser", "readList", "(LBehaviorRunner$Node;I)Z"⟩, 3), (⟨"BehaviorRunner$Walker", "beginVisit", "(LBehaviorRunner$Node;)I"⟩, 2), (⟨"BehaviorRunner$Walker", "beginRun", "(LBehaviorRunner$Node;)V"⟩, 2), (⟨"BehaviorRunner$Walker", "act", "(LBehaviorRunner$Node;I)I"⟩, 2), (⟨"BehaviorRunner$Walker", "goDown", "(LBehaviorRunner$Node;)I"⟩, 2), (⟨"BehaviorRunner$Walker", "goOnInParallel", "(LBehaviorRunner$Node;LBehaviorRunner$Node;)I"⟩, 2), (⟨"BehaviorRunner$Walker", "endRun", "(LBehaviorRunner$Node;I)V"⟩, 2), (⟨"BehaviorRunner$Walker", "goDownIf", "(ZLBehaviorRunner$Node;)I"⟩, 2)]
theorem lw_r1 : ∀ q ∈ lw_privs_1, lw_okq q := List.forall_mem_cons.mpr ⟨lw_p0, List.forall_mem_cons.mpr ⟨lw_p1, List.forall_mem_cons.mpr ⟨lw_p2, List.forall_mem_cons.mpr ⟨lw_p3, List.forall_mem_cons.mpr ⟨lw_p4, List.forall_mem_cons.mpr ⟨lw_p5, List.forall_mem_cons.mpr ⟨lw_p6, List.forall_mem_cons.mpr ⟨lw_p7, List.forall_mem_cons.mpr ⟨lw_p8, List.forall_mem_cons.mpr ⟨lw_p9, List.forall_mem_cons.mpr ⟨lw_p10, List.forall_mem_cons.mpr ⟨lw_p11, List.forall_mem_cons.mpr ⟨lw_p12, List.forall_mem_cons.mpr ⟨lw_p13, List.forall_mem_cons.mpr ⟨lw_p14, List.forall_mem_cons.mpr ⟨lw_p15, fun _ h => absurd h List.not_mem_nil⟩⟩⟩⟩⟩⟩⟩⟩⟩⟩⟩⟩⟩⟩⟩⟩
theorem lw_p16 : lw_okq (⟨"BehaviorRunner$Walker", "endVisit", "(LBehaviorRunner$Node;I)V"⟩, 2) := ⟨⟨by decide +kernel, by decide +kernel⟩, List.mem_of_getElem? (i := 46) (by decide +kernel), List.mem_of_getElem? (i := 668) (by decide +kernel), List.mem_of_getElem? (i := 669) (by decide +kernel)⟩
theorem lw_p17 : lw_okq (⟨"BehaviorRunner$Walker", "goOn", "(LBehaviorRunner$Node;LBehaviorRunner$Node;I)I"⟩, 2) := ⟨⟨by decide +kernel, by decide +kernel⟩, List.mem_of_getElem? (i := 46) (by decide +kernel), List.mem_of_getElem? (i := 672) (by decide +kernel), List.mem_of_getElem? (i := 673) (by decide +kernel)⟩
theorem lw_p18 : lw_okq (⟨"BehaviorRunner$Walker", "goOnInList", "(LBehaviorRunner$Node;LBehaviorRunner$Node;II)I"⟩, 2) := ⟨⟨by decide +kernel, by decide +kernel⟩, List.mem_of_getElem? (i := 46) (by decide +kernel), List.mem_of_getElem? (i := 676) (by decide +kernel), List.mem_of_getElem? (i := 677) (by decide +kernel)⟩
theorem lw_p19 : lw_okq (⟨"BehaviorRunner$Walker", "countResult", "(LBehaviorRunner$Node;II)I"⟩, 2) := ⟨⟨by decide +kernel, by decide +kernel⟩, List.mem_of_getElem? (i := 46) (by decide +kernel), List.mem_of_getElem? (i := 684) (by decide +kernel), List.mem_of_getElem? (i := 685) (by decide +kernel)⟩
theorem lw_p20 : lw_okq (⟨"BehaviorRunner$Ledger", "placeOf", "(I)I"⟩, 11) := ⟨⟨by decide +kernel, by decide +kernel⟩, List.mem_of_getElem? (i := 63) (by decide +kernel), List.mem_of_getElem? (i := 764) (by decide +kernel), List.mem_of_getElem? (i := 765) (by decide +kernel)⟩
theorem lw_p21 : lw_okq (⟨"BehaviorRunner$Writer", "writeHead", "(LBehaviorRunner$Node;)V"⟩, 2) := ⟨⟨by decide +kernel, by decide +kernel⟩, List.mem_of_getElem? (i := 784) (by decide +kernel), List.mem_of_getElem? (i := 803) (by decide +kernel), List.mem_of_getElem? (i := 804) (by decide +kernel)⟩
theorem lw_p22 : lw_okq (⟨"BehaviorRunner$Writer", "hasNumber", "(LBehaviorRunner$Node;)Z"⟩, 2) := ⟨⟨by decide +kernel, by decide +kernel⟩, List.mem_of_getElem? (i := 784) (by decide +kernel), List.mem_of_getElem? (i := 811) (by decide +kernel), List.mem_of_getElem? (i := 812) (by decide +kernel)⟩
theorem lw_p23 : lw_okq (⟨"BehaviorRunner$Writer", "writeNumber", "(I)V"⟩, 2) := ⟨⟨by decide +kernel, by decide +kernel⟩, List.mem_of_getElem? (i := 784) (by decide +kernel), List.mem_of_getElem? (i := 815) (by decide +kernel), List.mem_of_getElem? (i := 816) (by decide +kernel)⟩
theorem lw_p24 : lw_okq (⟨"BehaviorRunner$Writer", "writeClause", "(LBehaviorRunner$Clause;)V"⟩, 2) := ⟨⟨by decide +kernel, by decide +kernel⟩, List.mem_of_getElem? (i := 784) (by decide +kernel), List.mem_of_getElem? (i := 819) (by decide +kernel), List.mem_of_getElem? (i := 820) (by decide +kernel)⟩
theorem lw_p25 : lw_okq (⟨"BehaviorRunner$Writer", "writeBehind", "(LBehaviorRunner$Node;)V"⟩, 2) := ⟨⟨by decide +kernel, by decide +kernel⟩, List.mem_of_getElem? (i := 784) (by decide +kernel), List.mem_of_getElem? (i := 827) (by decide +kernel), List.mem_of_getElem? (i := 828) (by decide +kernel)⟩
theorem lw_p26 : lw_okq (⟨"BehaviorRunnerModel", "begins", "()V"⟩, 39) := ⟨⟨by decide +kernel, by decide +kernel⟩, List.mem_of_getElem? (i := 844) (by decide +kernel), List.mem_of_getElem? (i := 978) (by decide +kernel), List.mem_of_getElem? (i := 979) (by decide +kernel)⟩
theorem lw_p27 : lw_okq (⟨"BehaviorRunnerModel", "here", "()I"⟩, 39) := ⟨⟨by decide +kernel, by decide +kernel⟩, List.mem_of_getElem? (i := 844) (by decide +kernel), List.mem_of_getElem? (i := 982) (by decide +kernel), List.mem_of_getElem? (i := 983) (by decide +kernel)⟩
theorem lw_p28 : lw_okq (⟨"BehaviorRunnerModel", "digit", "(II)I"⟩, 39) := ⟨⟨by decide +kernel, by decide +kernel⟩, List.mem_of_getElem? (i := 844) (by decide +kernel), List.mem_of_getElem? (i := 989) (by decide +kernel), List.mem_of_getElem? (i := 990) (by decide +kernel)⟩
theorem lw_p29 : lw_okq (⟨"BehaviorRunnerModel", "deed", "(IZ)V"⟩, 39) := ⟨⟨by decide +kernel, by decide +kernel⟩, List.mem_of_getElem? (i := 844) (by decide +kernel), List.mem_of_getElem? (i := 993) (by decide +kernel), List.mem_of_getElem? (i := 994) (by decide +kernel)⟩
theorem lw_p30 : lw_okq (⟨"BehaviorRunnerModel", "sign", "(Z)I"⟩, 39) := ⟨⟨by decide +kernel, by decide +kernel⟩, List.mem_of_getElem? (i := 844) (by decide +kernel), List.mem_of_getElem? (i := 997) (by decide +kernel), List.mem_of_getElem? (i := 998) (by decide +kernel)⟩
theorem lw_p31 : lw_okq (⟨"BehaviorRunnerModel", "worth", "()I"⟩, 39) := ⟨⟨by decide +kernel, by decide +kernel⟩, List.mem_of_getElem? (i := 844) (by decide +kernel), List.mem_of_getElem? (i := 1001) (by decide +kernel), List.mem_of_getElem? (i := 1002) (by decide +kernel)⟩
def lw_privs_2 : List (MethodName × Nat) := [(⟨"BehaviorRunner$Walker", "endVisit", "(LBehaviorRunner$Node;I)V"⟩, 2), (⟨"BehaviorRunner$Walker", "goOn", "(LBehaviorRunner$Node;LBehaviorRunner$Node;I)I"⟩, 2), (⟨"BehaviorRunner$Walker", "goOnInList", "(LBehaviorRunner$Node;LBehaviorRunner$Node;II)I"⟩, 2), (⟨"BehaviorRunner$Walker", "countResult", "(LBehaviorRunner$Node;II)I"⟩, 2), (⟨"BehaviorRunner$Ledger", "placeOf", "(I)I"⟩, 11), (⟨"BehaviorRunner$Writer", "writeHead", "(LBehaviorRunner$Node;)V"⟩, 2), (⟨"BehaviorRunner$Writer", "hasNumber", "(LBehaviorRunner$Node;)Z"⟩, 2), (⟨"BehaviorRunner$Writer", "writeNumber", "(I)V"⟩, 2), (⟨"BehaviorRunner$Writer", "writeClause", "(LBehaviorRunner$Clause;)V"⟩, 2), (⟨"BehaviorRunner$Writer", "writeBehind", "(LBehaviorRunner$Node;)V"⟩, 2), (⟨"BehaviorRunnerModel", "begins", "()V"⟩, 39), (⟨"BehaviorRunnerModel", "here", "()I"⟩, 39), (⟨"BehaviorRunnerModel", "digit", "(II)I"⟩, 39), (⟨"BehaviorRunnerModel", "deed", "(IZ)V"⟩, 39), (⟨"BehaviorRunnerModel", "sign", "(Z)I"⟩, 39), (⟨"BehaviorRunnerModel", "worth", "()I"⟩, 39)]
theorem lw_r2 : ∀ q ∈ lw_privs_2, lw_okq q := List.forall_mem_cons.mpr ⟨lw_p16, List.forall_mem_cons.mpr ⟨lw_p17, List.forall_mem_cons.mpr ⟨lw_p18, List.forall_mem_cons.mpr ⟨lw_p19, List.forall_mem_cons.mpr ⟨lw_p20, List.forall_mem_cons.mpr ⟨lw_p21, List.forall_mem_cons.mpr ⟨lw_p22, List.forall_mem_cons.mpr ⟨lw_p23, List.forall_mem_cons.mpr ⟨lw_p24, List.forall_mem_cons.mpr ⟨lw_p25, List.forall_mem_cons.mpr ⟨lw_p26, List.forall_mem_cons.mpr ⟨lw_p27, List.forall_mem_cons.mpr ⟨lw_p28, List.forall_mem_cons.mpr ⟨lw_p29, List.forall_mem_cons.mpr ⟨lw_p30, List.forall_mem_cons.mpr ⟨lw_p31, fun _ h => absurd h List.not_mem_nil⟩⟩⟩⟩⟩⟩⟩⟩⟩⟩⟩⟩⟩⟩⟩⟩
theorem lw_p32 : lw_okq (⟨"BehaviorRunnerModel", "end", "(I)V"⟩, 39) := ⟨⟨by decide +kernel, by decide +kernel⟩, List.mem_of_getElem? (i := 844) (by decide +kernel), List.mem_of_getElem? (i := 1005) (by decide +kernel), List.mem_of_getElem? (i := 1006) (by decide +kernel)⟩
theorem lw_p33 : lw_okq (⟨"BehaviorRunnerModel", "goesUp", "()V"⟩, 39) := ⟨⟨by decide +kernel, by decide +kernel⟩, List.mem_of_getElem? (i := 844) (by decide +kernel), List.mem_of_getElem? (i := 1012) (by decide +kernel), List.mem_of_getElem? (i := 1013) (by decide +kernel)⟩
theorem lw_p34 : lw_okq (⟨"BehaviorRunnerModel", "place", "(II)I"⟩, 39) := ⟨⟨by decide +kernel, by decide +kernel⟩, List.mem_of_getElem? (i := 844) (by decide +kernel), List.mem_of_getElem? (i := 1024) (by decide +kernel), List.mem_of_getElem? (i := 1025) (by decide +kernel)⟩
theorem lw_p35 : lw_okq (⟨"BehaviorRunnerModel", "goes", "(I)I"⟩, 39) := ⟨⟨by decide +kernel, by decide +kernel⟩, List.mem_of_getElem? (i := 844) (by decide +kernel), List.mem_of_getElem? (i := 1032) (by decide +kernel), List.mem_of_getElem? (i := 1033) (by decide +kernel)⟩
theorem lw_p36 : lw_okq (⟨"BehaviorRunnerModel", "enters", "(I)I"⟩, 39) := ⟨⟨by decide +kernel, by decide +kernel⟩, List.mem_of_getElem? (i := 844) (by decide +kernel), List.mem_of_getElem? (i := 1036) (by decide +kernel), List.mem_of_getElem? (i := 1037) (by decide +kernel)⟩
theorem lw_p37 : lw_okq (⟨"BehaviorRunnerModel", "adds", "(II)V"⟩, 39) := ⟨⟨by decide +kernel, by decide +kernel⟩, List.mem_of_getElem? (i := 844) (by decide +kernel), List.mem_of_getElem? (i := 1040) (by decide +kernel), List.mem_of_getElem? (i := 1041) (by decide +kernel)⟩
theorem lw_p38 : lw_okq (⟨"BehaviorRunnerModel", "of", "(II)I"⟩, 39) := ⟨⟨by decide +kernel, by decide +kernel⟩, List.mem_of_getElem? (i := 844) (by decide +kernel), List.mem_of_getElem? (i := 1044) (by decide +kernel), List.mem_of_getElem? (i := 1045) (by decide +kernel)⟩
theorem lw_p39 : lw_okq (⟨"BehaviorRunnerModel", "sets", "(III)V"⟩, 39) := ⟨⟨by decide +kernel, by decide +kernel⟩, List.mem_of_getElem? (i := 844) (by decide +kernel), List.mem_of_getElem? (i := 1048) (by decide +kernel), List.mem_of_getElem? (i := 1049) (by decide +kernel)⟩
theorem lw_p40 : lw_okq (⟨"BehaviorRunnerModel", "acts", "(I)I"⟩, 39) := ⟨⟨by decide +kernel, by decide +kernel⟩, List.mem_of_getElem? (i := 844) (by decide +kernel), List.mem_of_getElem? (i := 1052) (by decide +kernel), List.mem_of_getElem? (i := 1053) (by decide +kernel)⟩
theorem lw_p41 : lw_okq (⟨"BehaviorRunnerModel", "does", "(IIII)V"⟩, 39) := ⟨⟨by decide +kernel, by decide +kernel⟩, List.mem_of_getElem? (i := 844) (by decide +kernel), List.mem_of_getElem? (i := 1056) (by decide +kernel), List.mem_of_getElem? (i := 1057) (by decide +kernel)⟩
theorem lw_p42 : lw_okq (⟨"BehaviorRunnerModel", "holds", "(I)Z"⟩, 39) := ⟨⟨by decide +kernel, by decide +kernel⟩, List.mem_of_getElem? (i := 844) (by decide +kernel), List.mem_of_getElem? (i := 1060) (by decide +kernel), List.mem_of_getElem? (i := 1061) (by decide +kernel)⟩
theorem lw_p43 : lw_okq (⟨"BehaviorRunnerModel", "asks", "(II)I"⟩, 39) := ⟨⟨by decide +kernel, by decide +kernel⟩, List.mem_of_getElem? (i := 844) (by decide +kernel), List.mem_of_getElem? (i := 1064) (by decide +kernel), List.mem_of_getElem? (i := 1065) (by decide +kernel)⟩
theorem lw_p44 : lw_okq (⟨"BehaviorRunnerModel", "childOf", "(II)I"⟩, 39) := ⟨⟨by decide +kernel, by decide +kernel⟩, List.mem_of_getElem? (i := 844) (by decide +kernel), List.mem_of_getElem? (i := 1068) (by decide +kernel), List.mem_of_getElem? (i := 1069) (by decide +kernel)⟩
theorem lw_p45 : lw_okq (⟨"BehaviorRunnerModel", "goesOn", "(I)I"⟩, 39) := ⟨⟨by decide +kernel, by decide +kernel⟩, List.mem_of_getElem? (i := 844) (by decide +kernel), List.mem_of_getElem? (i := 1072) (by decide +kernel), List.mem_of_getElem? (i := 1073) (by decide +kernel)⟩
theorem lw_p46 : lw_okq (⟨"BehaviorRunnerModel", "children", "(I)I"⟩, 39) := ⟨⟨by decide +kernel, by decide +kernel⟩, List.mem_of_getElem? (i := 844) (by decide +kernel), List.mem_of_getElem? (i := 1076) (by decide +kernel), List.mem_of_getElem? (i := 1077) (by decide +kernel)⟩
theorem lw_p47 : lw_okq (⟨"BehaviorRunnerModel", "aborts", "(I)I"⟩, 39) := ⟨⟨by decide +kernel, by decide +kernel⟩, List.mem_of_getElem? (i := 844) (by decide +kernel), List.mem_of_getElem? (i := 1083) (by decide +kernel), List.mem_of_getElem? (i := 1084) (by decide +kernel)⟩
def lw_privs_3 : List (MethodName × Nat) := [(⟨"BehaviorRunnerModel", "end", "(I)V"⟩, 39), (⟨"BehaviorRunnerModel", "goesUp", "()V"⟩, 39), (⟨"BehaviorRunnerModel", "place", "(II)I"⟩, 39), (⟨"BehaviorRunnerModel", "goes", "(I)I"⟩, 39), (⟨"BehaviorRunnerModel", "enters", "(I)I"⟩, 39), (⟨"BehaviorRunnerModel", "adds", "(II)V"⟩, 39), (⟨"BehaviorRunnerModel", "of", "(II)I"⟩, 39), (⟨"BehaviorRunnerModel", "sets", "(III)V"⟩, 39), (⟨"BehaviorRunnerModel", "acts", "(I)I"⟩, 39), (⟨"BehaviorRunnerModel", "does", "(IIII)V"⟩, 39), (⟨"BehaviorRunnerModel", "holds", "(I)Z"⟩, 39), (⟨"BehaviorRunnerModel", "asks", "(II)I"⟩, 39), (⟨"BehaviorRunnerModel", "childOf", "(II)I"⟩, 39), (⟨"BehaviorRunnerModel", "goesOn", "(I)I"⟩, 39), (⟨"BehaviorRunnerModel", "children", "(I)I"⟩, 39), (⟨"BehaviorRunnerModel", "aborts", "(I)I"⟩, 39)]
theorem lw_r3 : ∀ q ∈ lw_privs_3, lw_okq q := List.forall_mem_cons.mpr ⟨lw_p32, List.forall_mem_cons.mpr ⟨lw_p33, List.forall_mem_cons.mpr ⟨lw_p34, List.forall_mem_cons.mpr ⟨lw_p35, List.forall_mem_cons.mpr ⟨lw_p36, List.forall_mem_cons.mpr ⟨lw_p37, List.forall_mem_cons.mpr ⟨lw_p38, List.forall_mem_cons.mpr ⟨lw_p39, List.forall_mem_cons.mpr ⟨lw_p40, List.forall_mem_cons.mpr ⟨lw_p41, List.forall_mem_cons.mpr ⟨lw_p42, List.forall_mem_cons.mpr ⟨lw_p43, List.forall_mem_cons.mpr ⟨lw_p44, List.forall_mem_cons.mpr ⟨lw_p45, List.forall_mem_cons.mpr ⟨lw_p46, List.forall_mem_cons.mpr ⟨lw_p47, fun _ h => absurd h List.not_mem_nil⟩⟩⟩⟩⟩⟩⟩⟩⟩⟩⟩⟩⟩⟩⟩⟩
theorem lw_p48 : lw_okq (⟨"BehaviorRunnerModel", "tells", "(II)V"⟩, 39) := ⟨⟨by decide +kernel, by decide +kernel⟩, List.mem_of_getElem? (i := 844) (by decide +kernel), List.mem_of_getElem? (i := 1087) (by decide +kernel), List.mem_of_getElem? (i := 1088) (by decide +kernel)⟩
theorem lw_p49 : lw_okq (⟨"BehaviorRunnerModel", "ends", "(I)V"⟩, 39) := ⟨⟨by decide +kernel, by decide +kernel⟩, List.mem_of_getElem? (i := 844) (by decide +kernel), List.mem_of_getElem? (i := 1091) (by decide +kernel), List.mem_of_getElem? (i := 1092) (by decide +kernel)⟩
theorem lw_p50 : lw_okq (⟨"BehaviorRunnerModel", "leaves", "(II)V"⟩, 39) := ⟨⟨by decide +kernel, by decide +kernel⟩, List.mem_of_getElem? (i := 844) (by decide +kernel), List.mem_of_getElem? (i := 1095) (by decide +kernel), List.mem_of_getElem? (i := 1096) (by decide +kernel)⟩
theorem lw_p51 : lw_okq (⟨"BehaviorRunnerModel", "ticked", "(I)I"⟩, 39) := ⟨⟨by decide +kernel, by decide +kernel⟩, List.mem_of_getElem? (i := 844) (by decide +kernel), List.mem_of_getElem? (i := 1099) (by decide +kernel), List.mem_of_getElem? (i := 1100) (by decide +kernel)⟩
theorem lw_p52 : lw_okq (⟨"BehaviorRunnerModel", "hears", "(II)I"⟩, 39) := ⟨⟨by decide +kernel, by decide +kernel⟩, List.mem_of_getElem? (i := 844) (by decide +kernel), List.mem_of_getElem? (i := 1103) (by decide +kernel), List.mem_of_getElem? (i := 1104) (by decide +kernel)⟩
theorem lw_p53 : lw_okq (⟨"BehaviorRunnerModel", "counts", "(III)I"⟩, 39) := ⟨⟨by decide +kernel, by decide +kernel⟩, List.mem_of_getElem? (i := 844) (by decide +kernel), List.mem_of_getElem? (i := 1107) (by decide +kernel), List.mem_of_getElem? (i := 1108) (by decide +kernel)⟩
theorem lw_p54 : lw_okq (⟨"BehaviorRunnerModel", "runs", "(I)I"⟩, 39) := ⟨⟨by decide +kernel, by decide +kernel⟩, List.mem_of_getElem? (i := 844) (by decide +kernel), List.mem_of_getElem? (i := 1115) (by decide +kernel), List.mem_of_getElem? (i := 1116) (by decide +kernel)⟩
theorem lw_p55 : lw_okq (⟨"BehaviorRunnerModel", "writesNode", "(I)V"⟩, 39) := ⟨⟨by decide +kernel, by decide +kernel⟩, List.mem_of_getElem? (i := 844) (by decide +kernel), List.mem_of_getElem? (i := 1162) (by decide +kernel), List.mem_of_getElem? (i := 1163) (by decide +kernel)⟩
theorem lw_p56 : lw_okq (⟨"BehaviorRunnerModel", "writes", "(I)V"⟩, 39) := ⟨⟨by decide +kernel, by decide +kernel⟩, List.mem_of_getElem? (i := 844) (by decide +kernel), List.mem_of_getElem? (i := 1169) (by decide +kernel), List.mem_of_getElem? (i := 1170) (by decide +kernel)⟩
theorem lw_p57 : lw_okq (⟨"BehaviorRunnerModel", "writesDeed", "(III)V"⟩, 39) := ⟨⟨by decide +kernel, by decide +kernel⟩, List.mem_of_getElem? (i := 844) (by decide +kernel), List.mem_of_getElem? (i := 1173) (by decide +kernel), List.mem_of_getElem? (i := 1174) (by decide +kernel)⟩
def lw_privs_4 : List (MethodName × Nat) := [(⟨"BehaviorRunnerModel", "tells", "(II)V"⟩, 39), (⟨"BehaviorRunnerModel", "ends", "(I)V"⟩, 39), (⟨"BehaviorRunnerModel", "leaves", "(II)V"⟩, 39), (⟨"BehaviorRunnerModel", "ticked", "(I)I"⟩, 39), (⟨"BehaviorRunnerModel", "hears", "(II)I"⟩, 39), (⟨"BehaviorRunnerModel", "counts", "(III)I"⟩, 39), (⟨"BehaviorRunnerModel", "runs", "(I)I"⟩, 39), (⟨"BehaviorRunnerModel", "writesNode", "(I)V"⟩, 39), (⟨"BehaviorRunnerModel", "writes", "(I)V"⟩, 39), (⟨"BehaviorRunnerModel", "writesDeed", "(III)V"⟩, 39)]
theorem lw_r4 : ∀ q ∈ lw_privs_4, lw_okq q := List.forall_mem_cons.mpr ⟨lw_p48, List.forall_mem_cons.mpr ⟨lw_p49, List.forall_mem_cons.mpr ⟨lw_p50, List.forall_mem_cons.mpr ⟨lw_p51, List.forall_mem_cons.mpr ⟨lw_p52, List.forall_mem_cons.mpr ⟨lw_p53, List.forall_mem_cons.mpr ⟨lw_p54, List.forall_mem_cons.mpr ⟨lw_p55, List.forall_mem_cons.mpr ⟨lw_p56, List.forall_mem_cons.mpr ⟨lw_p57, fun _ h => absurd h List.not_mem_nil⟩⟩⟩⟩⟩⟩⟩⟩⟩⟩
def lw_privs : List (MethodName × Nat) := lw_privs_1 ++ (lw_privs_2 ++ (lw_privs_3 ++ (lw_privs_4)))
def lw_tbl : List Cond := k2_sels lw_privs ++ tables_1
theorem lw_privs_ok : ∀ q ∈ lw_privs, lw_okq q := by
  show ∀ q ∈ lw_privs_1 ++ (lw_privs_2 ++ (lw_privs_3 ++ (lw_privs_4))), lw_okq q
  exact List.forall_mem_append.mpr ⟨lw_r1, List.forall_mem_append.mpr ⟨lw_r2, List.forall_mem_append.mpr ⟨lw_r3, lw_r4⟩⟩⟩
end
section
def RX0 : String := "BehaviorRunner$Board"
def TX0 : u_T := fun k => match k with
  | _ => ("BehaviorRunner$Board", "globals", "[I", true)
def tyX0 : Nat → FieldType := fun k => match k with
  | _ => .array .int
theorem nmX0 : ∀ a, a < 1 → ∀ b, b < 1 → a ≠ b → (TX0 a).2.1 ≠ (TX0 b).2.1 := by decide +kernel
theorem tyX0_ok : ∀ k, k < 1 → parseFieldDescriptor (TX0 k).2.2.1 = some (tyX0 k) := by decide +kernel
abbrev cX0_init : ByteArray := prog_2_method_1_code
def yX0_init : MethodName := ⟨RX0, "<init>", "()V"⟩
abbrev cX0_copyFrom : ByteArray := prog_2_method_2_code
def yX0_copyFrom : MethodName := ⟨RX0, "copyFrom", "(LBehaviorRunner$Board;)V"⟩
abbrev cX0_valueIn : ByteArray := prog_2_method_3_code
def yX0_valueIn : MethodName := ⟨RX0, "valueIn", "(LBehaviorRunner$Node;I)I"⟩
abbrev cX0_put : ByteArray := prog_2_method_4_code
def yX0_put : MethodName := ⟨RX0, "put", "(LBehaviorRunner$Node;II)V"⟩
abbrev cX0_change : ByteArray := prog_2_method_5_code
def yX0_change : MethodName := ⟨RX0, "change", "(LBehaviorRunner$Clause;)V"⟩
abbrev cX0_fulfils : ByteArray := prog_2_method_6_code
def yX0_fulfils : MethodName := ⟨RX0, "fulfils", "(LBehaviorRunner$Clause;)Z"⟩
def RX1 : String := "BehaviorRunner$Clause"
def TX1 : u_T := fun k => match k with
  | 0 => ("BehaviorRunner$Clause", "present", "Z", false)
  | 1 => ("BehaviorRunner$Clause", "key", "I", false)
  | 2 => ("BehaviorRunner$Clause", "sign", "C", false)
  | 3 => ("BehaviorRunner$Clause", "number", "I", false)
  | _ => ("BehaviorRunner$Clause", "scope", "LBehaviorRunner$Node;", false)
def tyX1 : Nat → FieldType := fun k => match k with
  | 0 => .boolean
  | 1 => .int
  | 2 => .char
  | 3 => .int
  | _ => .object "BehaviorRunner$Node"
theorem nmX1 : ∀ a, a < 5 → ∀ b, b < 5 → a ≠ b → (TX1 a).2.1 ≠ (TX1 b).2.1 := by decide +kernel
theorem tyX1_ok : ∀ k, k < 5 → parseFieldDescriptor (TX1 k).2.2.1 = some (tyX1 k) := by decide +kernel
abbrev cX1_init : ByteArray := prog_3_method_1_code
def yX1_init : MethodName := ⟨RX1, "<init>", "()V"⟩
abbrev cX1_clear : ByteArray := prog_3_method_2_code
def yX1_clear : MethodName := ⟨RX1, "clear", "()V"⟩
def RX2 : String := "BehaviorRunner$Ledger"
def TX2 : u_T := fun k => match k with
  | 0 => ("BehaviorRunner$Ledger", "next", "LBehaviorRunner$Node;", false)
  | 1 => ("BehaviorRunner$Ledger", "ticks", "I", false)
  | 2 => ("BehaviorRunner$Ledger", "successes", "I", false)
  | 3 => ("BehaviorRunner$Ledger", "failures", "I", false)
  | 4 => ("BehaviorRunner$Ledger", "visits", "I", false)
  | 5 => ("BehaviorRunner$Ledger", "aborts", "I", false)
  | 6 => ("BehaviorRunner$Ledger", "ends", "I", false)
  | 7 => ("BehaviorRunner$Ledger", "suspensions", "I", false)
  | 8 => ("BehaviorRunner$Ledger", "traced", "I", false)
  | 9 => ("BehaviorRunner$Ledger", "tracedNodes", "[I", true)
  | _ => ("BehaviorRunner$Ledger", "tracedResults", "[I", true)
def tyX2 : Nat → FieldType := fun k => match k with
  | 0 => .object "BehaviorRunner$Node"
  | 1 => .int
  | 2 => .int
  | 3 => .int
  | 4 => .int
  | 5 => .int
  | 6 => .int
  | 7 => .int
  | 8 => .int
  | 9 => .array .int
  | _ => .array .int
theorem nmX2 : ∀ a, a < 11 → ∀ b, b < 11 → a ≠ b → (TX2 a).2.1 ≠ (TX2 b).2.1 := by decide +kernel
theorem tyX2_ok : ∀ k, k < 11 → parseFieldDescriptor (TX2 k).2.2.1 = some (tyX2 k) := by decide +kernel
abbrev cX2_init : ByteArray := prog_4_method_1_code
def yX2_init : MethodName := ⟨RX2, "<init>", "()V"⟩
abbrev cX2_clear : ByteArray := prog_4_method_2_code
def yX2_clear : MethodName := ⟨RX2, "clear", "()V"⟩
abbrev cX2_copyFrom : ByteArray := prog_4_method_3_code
def yX2_copyFrom : MethodName := ⟨RX2, "copyFrom", "(LBehaviorRunner$Ledger;)V"⟩
abbrev cX2_endTick : ByteArray := prog_4_method_4_code
def yX2_endTick : MethodName := ⟨RX2, "endTick", "(I)V"⟩
abbrev cX2_enter : ByteArray := prog_4_method_5_code
def yX2_enter : MethodName := ⟨RX2, "enter", "(LBehaviorRunner$Node;I)V"⟩
abbrev cX2_entries : ByteArray := prog_4_method_6_code
def yX2_entries : MethodName := ⟨RX2, "entries", "()I"⟩
abbrev cX2_tracedNode : ByteArray := prog_4_method_7_code
def yX2_tracedNode : MethodName := ⟨RX2, "tracedNode", "(I)I"⟩
abbrev cX2_tracedResult : ByteArray := prog_4_method_8_code
def yX2_tracedResult : MethodName := ⟨RX2, "tracedResult", "(I)I"⟩
abbrev cX2_placeOf : ByteArray := prog_4_method_9_code
def yX2_placeOf : MethodName := ⟨RX2, "placeOf", "(I)I"⟩
def RX3 : String := "BehaviorRunner$Life"
def TX3 : u_T := fun k => match k with
  | 0 => ("BehaviorRunner$Life", "running", "Z", false)
  | 1 => ("BehaviorRunner$Life", "counted", "I", false)
  | 2 => ("BehaviorRunner$Life", "current", "LBehaviorRunner$Node;", false)
  | 3 => ("BehaviorRunner$Life", "latest", "I", false)
  | 4 => ("BehaviorRunner$Life", "local", "I", false)
  | 5 => ("BehaviorRunner$Life", "runs", "I", false)
  | 6 => ("BehaviorRunner$Life", "successes", "I", false)
  | 7 => ("BehaviorRunner$Life", "failures", "I", false)
  | 8 => ("BehaviorRunner$Life", "aborts", "I", false)
  | _ => ("BehaviorRunner$Life", "visits", "I", false)
def tyX3 : Nat → FieldType := fun k => match k with
  | 0 => .boolean
  | 1 => .int
  | 2 => .object "BehaviorRunner$Node"
  | 3 => .int
  | 4 => .int
  | 5 => .int
  | 6 => .int
  | 7 => .int
  | 8 => .int
  | _ => .int
theorem nmX3 : ∀ a, a < 10 → ∀ b, b < 10 → a ≠ b → (TX3 a).2.1 ≠ (TX3 b).2.1 := by decide +kernel
theorem tyX3_ok : ∀ k, k < 10 → parseFieldDescriptor (TX3 k).2.2.1 = some (tyX3 k) := by decide +kernel
abbrev cX3_init : ByteArray := prog_5_method_1_code
def yX3_init : MethodName := ⟨RX3, "<init>", "()V"⟩
abbrev cX3_clear : ByteArray := prog_5_method_2_code
def yX3_clear : MethodName := ⟨RX3, "clear", "()V"⟩
abbrev cX3_copyFrom : ByteArray := prog_5_method_3_code
def yX3_copyFrom : MethodName := ⟨RX3, "copyFrom", "(LBehaviorRunner$Life;)V"⟩
def RX4 : String := "BehaviorRunner$Node"
def TX4 : u_T := fun k => match k with
  | 0 => ("BehaviorRunner$Node", "index", "I", true)
  | 1 => ("BehaviorRunner$Node", "clause", "LBehaviorRunner$Clause;", true)
  | 2 => ("BehaviorRunner$Node", "end", "LBehaviorRunner$Clause;", true)
  | 3 => ("BehaviorRunner$Node", "life", "LBehaviorRunner$Life;", true)
  | 4 => ("BehaviorRunner$Node", "kind", "I", false)
  | 5 => ("BehaviorRunner$Node", "number", "I", false)
  | 6 => ("BehaviorRunner$Node", "depth", "I", false)
  | 7 => ("BehaviorRunner$Node", "children", "I", false)
  | 8 => ("BehaviorRunner$Node", "before", "LBehaviorRunner$Node;", false)
  | 9 => ("BehaviorRunner$Node", "parent", "LBehaviorRunner$Node;", false)
  | 10 => ("BehaviorRunner$Node", "firstChild", "LBehaviorRunner$Node;", false)
  | 11 => ("BehaviorRunner$Node", "lastChild", "LBehaviorRunner$Node;", false)
  | 12 => ("BehaviorRunner$Node", "nextSibling", "LBehaviorRunner$Node;", false)
  | _ => ("BehaviorRunner$Node", "lastBelow", "LBehaviorRunner$Node;", false)
def tyX4 : Nat → FieldType := fun k => match k with
  | 0 => .int
  | 1 => .object "BehaviorRunner$Clause"
  | 2 => .object "BehaviorRunner$Clause"
  | 3 => .object "BehaviorRunner$Life"
  | 4 => .int
  | 5 => .int
  | 6 => .int
  | 7 => .int
  | 8 => .object "BehaviorRunner$Node"
  | 9 => .object "BehaviorRunner$Node"
  | 10 => .object "BehaviorRunner$Node"
  | 11 => .object "BehaviorRunner$Node"
  | 12 => .object "BehaviorRunner$Node"
  | _ => .object "BehaviorRunner$Node"
theorem nmX4 : ∀ a, a < 14 → ∀ b, b < 14 → a ≠ b → (TX4 a).2.1 ≠ (TX4 b).2.1 := by decide +kernel
theorem tyX4_ok : ∀ k, k < 14 → parseFieldDescriptor (TX4 k).2.2.1 = some (tyX4 k) := by decide +kernel
abbrev cX4_init : ByteArray := prog_6_method_1_code
def yX4_init : MethodName := ⟨RX4, "<init>", "(I)V"⟩
abbrev cX4_reset : ByteArray := prog_6_method_2_code
def yX4_reset : MethodName := ⟨RX4, "reset", "(ILBehaviorRunner$Node;LBehaviorRunner$Node;)V"⟩
abbrev cX4_adopt : ByteArray := prog_6_method_3_code
def yX4_adopt : MethodName := ⟨RX4, "adopt", "(LBehaviorRunner$Node;)V"⟩
abbrev cX4_hasList : ByteArray := prog_6_method_4_code
def yX4_hasList : MethodName := ⟨RX4, "hasList", "()Z"⟩
abbrev cX4_isReactive : ByteArray := prog_6_method_5_code
def yX4_isReactive : MethodName := ⟨RX4, "isReactive", "()Z"⟩
abbrev cX4_scopeOf : ByteArray := prog_6_method_6_code
def yX4_scopeOf : MethodName := ⟨RX4, "scopeOf", "(I)LBehaviorRunner$Node;"⟩
def RX5 : String := "BehaviorRunner$Parser"
def TX5 : u_T := fun k => match k with
  | 0 => ("BehaviorRunner$Parser", "text", "LBehaviorRunner$Text;", true)
  | 1 => ("BehaviorRunner$Parser", "tree", "LBehaviorRunner$Tree;", true)
  | _ => ("BehaviorRunner$Parser", "offset", "I", false)
def tyX5 : Nat → FieldType := fun k => match k with
  | 0 => .object "BehaviorRunner$Text"
  | 1 => .object "BehaviorRunner$Tree"
  | _ => .int
theorem nmX5 : ∀ a, a < 3 → ∀ b, b < 3 → a ≠ b → (TX5 a).2.1 ≠ (TX5 b).2.1 := by decide +kernel
theorem tyX5_ok : ∀ k, k < 3 → parseFieldDescriptor (TX5 k).2.2.1 = some (tyX5 k) := by decide +kernel
abbrev cX5_init : ByteArray := prog_7_method_1_code
def yX5_init : MethodName := ⟨RX5, "<init>", "(LBehaviorRunner$Text;LBehaviorRunner$Tree;)V"⟩
abbrev cX5_parse : ByteArray := prog_7_method_2_code
def yX5_parse : MethodName := ⟨RX5, "parse", "()I"⟩
abbrev cX5_readNode : ByteArray := prog_7_method_3_code
def yX5_readNode : MethodName := ⟨RX5, "readNode", "(LBehaviorRunner$Node;I)Z"⟩
abbrev cX5_readRest : ByteArray := prog_7_method_4_code
def yX5_readRest : MethodName := ⟨RX5, "readRest", "(LBehaviorRunner$Node;I)Z"⟩
abbrev cX5_readList : ByteArray := prog_7_method_5_code
def yX5_readList : MethodName := ⟨RX5, "readList", "(LBehaviorRunner$Node;I)Z"⟩
abbrev cX5_readNumber : ByteArray := prog_7_method_6_code
def yX5_readNumber : MethodName := ⟨RX5, "readNumber", "(LBehaviorRunner$Node;II)Z"⟩
abbrev cX5_readEffects : ByteArray := prog_7_method_7_code
def yX5_readEffects : MethodName := ⟨RX5, "readEffects", "(LBehaviorRunner$Node;)Z"⟩
abbrev cX5_readClause : ByteArray := prog_7_method_8_code
def yX5_readClause : MethodName := ⟨RX5, "readClause", "(LBehaviorRunner$Node;LBehaviorRunner$Clause;Ljava/lang/String;)Z"⟩
abbrev cX5_readDigit : ByteArray := prog_7_method_9_code
def yX5_readDigit : MethodName := ⟨RX5, "readDigit", "(II)I"⟩
abbrev cX5_skip : ByteArray := prog_7_method_10_code
def yX5_skip : MethodName := ⟨RX5, "skip", "(C)Z"⟩
abbrev cX5_placeIn : ByteArray := prog_7_method_11_code
def yX5_placeIn : MethodName := ⟨RX5, "placeIn", "(Ljava/lang/String;)I"⟩
def RX6 : String := "BehaviorRunner$Snapshot"
def TX6 : u_T := fun k => match k with
  | 0 => ("BehaviorRunner$Snapshot", "lives", "[LBehaviorRunner$Life;", true)
  | 1 => ("BehaviorRunner$Snapshot", "board", "LBehaviorRunner$Board;", true)
  | _ => ("BehaviorRunner$Snapshot", "ledger", "LBehaviorRunner$Ledger;", true)
def tyX6 : Nat → FieldType := fun k => match k with
  | 0 => .array (.object "BehaviorRunner$Life")
  | 1 => .object "BehaviorRunner$Board"
  | _ => .object "BehaviorRunner$Ledger"
theorem nmX6 : ∀ a, a < 3 → ∀ b, b < 3 → a ≠ b → (TX6 a).2.1 ≠ (TX6 b).2.1 := by decide +kernel
theorem tyX6_ok : ∀ k, k < 3 → parseFieldDescriptor (TX6 k).2.2.1 = some (tyX6 k) := by decide +kernel
abbrev cX6_init : ByteArray := prog_8_method_1_code
def yX6_init : MethodName := ⟨RX6, "<init>", "()V"⟩
abbrev cX6_take : ByteArray := prog_8_method_2_code
def yX6_take : MethodName := ⟨RX6, "take", "(LBehaviorRunner$Tree;LBehaviorRunner$Board;LBehaviorRunner$Ledger;)V"⟩
abbrev cX6_giveBack : ByteArray := prog_8_method_3_code
def yX6_giveBack : MethodName := ⟨RX6, "giveBack", "(LBehaviorRunner$Tree;LBehaviorRunner$Board;LBehaviorRunner$Ledger;)V"⟩
def RX7 : String := "BehaviorRunner$Text"
def TX7 : u_T := fun k => match k with
  | 0 => ("BehaviorRunner$Text", "characters", "[C", true)
  | _ => ("BehaviorRunner$Text", "length", "I", false)
def tyX7 : Nat → FieldType := fun k => match k with
  | 0 => .array .char
  | _ => .int
theorem nmX7 : ∀ a, a < 2 → ∀ b, b < 2 → a ≠ b → (TX7 a).2.1 ≠ (TX7 b).2.1 := by decide +kernel
theorem tyX7_ok : ∀ k, k < 2 → parseFieldDescriptor (TX7 k).2.2.1 = some (tyX7 k) := by decide +kernel
abbrev cX7_init : ByteArray := prog_9_method_1_code
def yX7_init : MethodName := ⟨RX7, "<init>", "()V"⟩
abbrev cX7_clear : ByteArray := prog_9_method_2_code
def yX7_clear : MethodName := ⟨RX7, "clear", "()V"⟩
abbrev cX7_add : ByteArray := prog_9_method_3_code
def yX7_add : MethodName := ⟨RX7, "add", "(C)V"⟩
abbrev cX7_codeAt : ByteArray := prog_9_method_4_code
def yX7_codeAt : MethodName := ⟨RX7, "codeAt", "(I)I"⟩
def RX8 : String := "BehaviorRunner$Tree"
def TX8 : u_T := fun k => match k with
  | 0 => ("BehaviorRunner$Tree", "nodes", "[LBehaviorRunner$Node;", true)
  | _ => ("BehaviorRunner$Tree", "size", "I", false)
def tyX8 : Nat → FieldType := fun k => match k with
  | 0 => .array (.object "BehaviorRunner$Node")
  | _ => .int
theorem nmX8 : ∀ a, a < 2 → ∀ b, b < 2 → a ≠ b → (TX8 a).2.1 ≠ (TX8 b).2.1 := by decide +kernel
theorem tyX8_ok : ∀ k, k < 2 → parseFieldDescriptor (TX8 k).2.2.1 = some (tyX8 k) := by decide +kernel
abbrev cX8_init : ByteArray := prog_10_method_1_code
def yX8_init : MethodName := ⟨RX8, "<init>", "()V"⟩
abbrev cX8_nodeAt : ByteArray := prog_10_method_2_code
def yX8_nodeAt : MethodName := ⟨RX8, "nodeAt", "(I)LBehaviorRunner$Node;"⟩
abbrev cX8_grow : ByteArray := prog_10_method_3_code
def yX8_grow : MethodName := ⟨RX8, "grow", "(ILBehaviorRunner$Node;)LBehaviorRunner$Node;"⟩
abbrev cX8_runningNodes : ByteArray := prog_10_method_4_code
def yX8_runningNodes : MethodName := ⟨RX8, "runningNodes", "()I"⟩
def RX9 : String := "BehaviorRunner$Walker"
def TX9 : u_T := fun k => match k with
  | 0 => ("BehaviorRunner$Walker", "board", "LBehaviorRunner$Board;", true)
  | _ => ("BehaviorRunner$Walker", "ledger", "LBehaviorRunner$Ledger;", true)
def tyX9 : Nat → FieldType := fun k => match k with
  | 0 => .object "BehaviorRunner$Board"
  | _ => .object "BehaviorRunner$Ledger"
theorem nmX9 : ∀ a, a < 2 → ∀ b, b < 2 → a ≠ b → (TX9 a).2.1 ≠ (TX9 b).2.1 := by decide +kernel
theorem tyX9_ok : ∀ k, k < 2 → parseFieldDescriptor (TX9 k).2.2.1 = some (tyX9 k) := by decide +kernel
abbrev cX9_init : ByteArray := prog_11_method_1_code
def yX9_init : MethodName := ⟨RX9, "<init>", "()V"⟩
abbrev cX9_perform : ByteArray := prog_11_method_2_code
def yX9_perform : MethodName := ⟨RX9, "perform", "(LBehaviorRunner$Node;I)I"⟩
abbrev cX9_stopBack : ByteArray := prog_11_method_3_code
def yX9_stopBack : MethodName := ⟨RX9, "stopBack", "(LBehaviorRunner$Node;LBehaviorRunner$Node;)V"⟩
abbrev cX9_endRun : ByteArray := prog_11_method_4_code
def yX9_endRun : MethodName := ⟨RX9, "endRun", "(LBehaviorRunner$Node;I)V"⟩
abbrev cX9_beginVisit : ByteArray := prog_11_method_5_code
def yX9_beginVisit : MethodName := ⟨RX9, "beginVisit", "(LBehaviorRunner$Node;)I"⟩
abbrev cX9_beginRun : ByteArray := prog_11_method_6_code
def yX9_beginRun : MethodName := ⟨RX9, "beginRun", "(LBehaviorRunner$Node;)V"⟩
abbrev cX9_act : ByteArray := prog_11_method_7_code
def yX9_act : MethodName := ⟨RX9, "act", "(LBehaviorRunner$Node;I)I"⟩
abbrev cX9_goDown : ByteArray := prog_11_method_8_code
def yX9_goDown : MethodName := ⟨RX9, "goDown", "(LBehaviorRunner$Node;)I"⟩
abbrev cX9_goDownIf : ByteArray := prog_11_method_9_code
def yX9_goDownIf : MethodName := ⟨RX9, "goDownIf", "(ZLBehaviorRunner$Node;)I"⟩
abbrev cX9_endVisit : ByteArray := prog_11_method_10_code
def yX9_endVisit : MethodName := ⟨RX9, "endVisit", "(LBehaviorRunner$Node;I)V"⟩
abbrev cX9_goOn : ByteArray := prog_11_method_11_code
def yX9_goOn : MethodName := ⟨RX9, "goOn", "(LBehaviorRunner$Node;LBehaviorRunner$Node;I)I"⟩
abbrev cX9_goOnInList : ByteArray := prog_11_method_12_code
def yX9_goOnInList : MethodName := ⟨RX9, "goOnInList", "(LBehaviorRunner$Node;LBehaviorRunner$Node;II)I"⟩
abbrev cX9_goOnInParallel : ByteArray := prog_11_method_13_code
def yX9_goOnInParallel : MethodName := ⟨RX9, "goOnInParallel", "(LBehaviorRunner$Node;LBehaviorRunner$Node;)I"⟩
abbrev cX9_countResult : ByteArray := prog_11_method_14_code
def yX9_countResult : MethodName := ⟨RX9, "countResult", "(LBehaviorRunner$Node;II)I"⟩
def RX10 : String := "BehaviorRunner$Writer"
def TX10 : u_T := fun k => match k with
  | 0 => ("BehaviorRunner$Writer", "tree", "LBehaviorRunner$Tree;", true)
  | _ => ("BehaviorRunner$Writer", "text", "LBehaviorRunner$Text;", true)
def tyX10 : Nat → FieldType := fun k => match k with
  | 0 => .object "BehaviorRunner$Tree"
  | _ => .object "BehaviorRunner$Text"
theorem nmX10 : ∀ a, a < 2 → ∀ b, b < 2 → a ≠ b → (TX10 a).2.1 ≠ (TX10 b).2.1 := by decide +kernel
theorem tyX10_ok : ∀ k, k < 2 → parseFieldDescriptor (TX10 k).2.2.1 = some (tyX10 k) := by decide +kernel
abbrev cX10_init : ByteArray := prog_12_method_1_code
def yX10_init : MethodName := ⟨RX10, "<init>", "(LBehaviorRunner$Tree;LBehaviorRunner$Text;)V"⟩
abbrev cX10_writeTree : ByteArray := prog_12_method_2_code
def yX10_writeTree : MethodName := ⟨RX10, "writeTree", "()V"⟩
abbrev cX10_writeHead : ByteArray := prog_12_method_3_code
def yX10_writeHead : MethodName := ⟨RX10, "writeHead", "(LBehaviorRunner$Node;)V"⟩
abbrev cX10_writeBehind : ByteArray := prog_12_method_4_code
def yX10_writeBehind : MethodName := ⟨RX10, "writeBehind", "(LBehaviorRunner$Node;)V"⟩
abbrev cX10_hasNumber : ByteArray := prog_12_method_5_code
def yX10_hasNumber : MethodName := ⟨RX10, "hasNumber", "(LBehaviorRunner$Node;)Z"⟩
abbrev cX10_writeClause : ByteArray := prog_12_method_6_code
def yX10_writeClause : MethodName := ⟨RX10, "writeClause", "(LBehaviorRunner$Clause;)V"⟩
abbrev cX10_writeNumber : ByteArray := prog_12_method_7_code
def yX10_writeNumber : MethodName := ⟨RX10, "writeNumber", "(I)V"⟩
def RX11 : String := "BehaviorRunner"
def TX11 : u_T := fun k => match k with
  | 0 => ("BehaviorRunner", "typed", "LBehaviorRunner$Text;", true)
  | 1 => ("BehaviorRunner", "output", "LBehaviorRunner$Text;", true)
  | 2 => ("BehaviorRunner", "walker", "LBehaviorRunner$Walker;", true)
  | 3 => ("BehaviorRunner", "board", "LBehaviorRunner$Board;", true)
  | 4 => ("BehaviorRunner", "ledger", "LBehaviorRunner$Ledger;", true)
  | 5 => ("BehaviorRunner", "saved", "LBehaviorRunner$Snapshot;", true)
  | 6 => ("BehaviorRunner", "aside", "LBehaviorRunner$Snapshot;", true)
  | 7 => ("BehaviorRunner", "tree", "LBehaviorRunner$Tree;", false)
  | 8 => ("BehaviorRunner", "spare", "LBehaviorRunner$Tree;", false)
  | _ => ("BehaviorRunner", "hasSaved", "Z", false)
def tyX11 : Nat → FieldType := fun k => match k with
  | 0 => .object "BehaviorRunner$Text"
  | 1 => .object "BehaviorRunner$Text"
  | 2 => .object "BehaviorRunner$Walker"
  | 3 => .object "BehaviorRunner$Board"
  | 4 => .object "BehaviorRunner$Ledger"
  | 5 => .object "BehaviorRunner$Snapshot"
  | 6 => .object "BehaviorRunner$Snapshot"
  | 7 => .object "BehaviorRunner$Tree"
  | 8 => .object "BehaviorRunner$Tree"
  | _ => .boolean
theorem nmX11 : ∀ a, a < 10 → ∀ b, b < 10 → a ≠ b → (TX11 a).2.1 ≠ (TX11 b).2.1 := by decide +kernel
theorem tyX11_ok : ∀ k, k < 10 → parseFieldDescriptor (TX11 k).2.2.1 = some (tyX11 k) := by decide +kernel
abbrev cX11_init : ByteArray := prog_1_method_1_code
def yX11_init : MethodName := ⟨RX11, "<init>", "()V"⟩
abbrev cX11_append : ByteArray := prog_1_method_2_code
def yX11_append : MethodName := ⟨RX11, "append", "(II)I"⟩
abbrev cX11_readTree : ByteArray := prog_1_method_3_code
def yX11_readTree : MethodName := ⟨RX11, "readTree", "()I"⟩
abbrev cX11_set : ByteArray := prog_1_method_4_code
def yX11_set : MethodName := ⟨RX11, "set", "(II)I"⟩
abbrev cX11_value : ByteArray := prog_1_method_5_code
def yX11_value : MethodName := ⟨RX11, "value", "(II)I"⟩
abbrev cX11_tick : ByteArray := prog_1_method_6_code
def yX11_tick : MethodName := ⟨RX11, "tick", "(I)I"⟩
abbrev cX11_run : ByteArray := prog_1_method_7_code
def yX11_run : MethodName := ⟨RX11, "run", "(I)I"⟩
abbrev cX11_foresee : ByteArray := prog_1_method_8_code
def yX11_foresee : MethodName := ⟨RX11, "foresee", "()I"⟩
abbrev cX11_ticksToGo : ByteArray := prog_1_method_9_code
def yX11_ticksToGo : MethodName := ⟨RX11, "ticksToGo", "()I"⟩
abbrev cX11_abort : ByteArray := prog_1_method_10_code
def yX11_abort : MethodName := ⟨RX11, "abort", "()I"⟩
abbrev cX11_node : ByteArray := prog_1_method_11_code
def yX11_node : MethodName := ⟨RX11, "node", "(II)I"⟩
abbrev cX11_child : ByteArray := prog_1_method_12_code
def yX11_child : MethodName := ⟨RX11, "child", "(II)I"⟩
abbrev cX11_underWay : ByteArray := prog_1_method_13_code
def yX11_underWay : MethodName := ⟨RX11, "underWay", "(I)I"⟩
abbrev cX11_pending : ByteArray := prog_1_method_14_code
def yX11_pending : MethodName := ⟨RX11, "pending", "()I"⟩
abbrev cX11_trace : ByteArray := prog_1_method_15_code
def yX11_trace : MethodName := ⟨RX11, "trace", "(II)I"⟩
abbrev cX11_count : ByteArray := prog_1_method_16_code
def yX11_count : MethodName := ⟨RX11, "count", "(I)I"⟩
abbrev cX11_write : ByteArray := prog_1_method_17_code
def yX11_write : MethodName := ⟨RX11, "write", "()I"⟩
abbrev cX11_written : ByteArray := prog_1_method_18_code
def yX11_written : MethodName := ⟨RX11, "written", "(I)I"⟩
abbrev cX11_save : ByteArray := prog_1_method_19_code
def yX11_save : MethodName := ⟨RX11, "save", "()I"⟩
abbrev cX11_restore : ByteArray := prog_1_method_20_code
def yX11_restore : MethodName := ⟨RX11, "restore", "()I"⟩
def RX12 : String := "BehaviorRunnerModel"
def TX12 : u_T := fun k => match k with
  | 0 => ("BehaviorRunnerModel", "v", "[I", true)
  | 1 => ("BehaviorRunnerModel", "saved", "[I", true)
  | 2 => ("BehaviorRunnerModel", "kept", "[I", true)
  | 3 => ("BehaviorRunnerModel", "isSaved", "Z", false)
  | 4 => ("BehaviorRunnerModel", "text", "[I", true)
  | 5 => ("BehaviorRunnerModel", "written", "[I", true)
  | 6 => ("BehaviorRunnerModel", "textN", "I", false)
  | 7 => ("BehaviorRunnerModel", "writtenN", "I", false)
  | 8 => ("BehaviorRunnerModel", "nodes", "I", false)
  | 9 => ("BehaviorRunnerModel", "kind", "[I", true)
  | 10 => ("BehaviorRunnerModel", "number", "[I", true)
  | 11 => ("BehaviorRunnerModel", "above", "[I", true)
  | 12 => ("BehaviorRunnerModel", "depth", "[I", true)
  | 13 => ("BehaviorRunnerModel", "last", "[I", true)
  | 14 => ("BehaviorRunnerModel", "deedKey", "[I", true)
  | 15 => ("BehaviorRunnerModel", "deedSign", "[I", true)
  | 16 => ("BehaviorRunnerModel", "deedNumber", "[I", true)
  | 17 => ("BehaviorRunnerModel", "endKey", "[I", true)
  | 18 => ("BehaviorRunnerModel", "endSign", "[I", true)
  | 19 => ("BehaviorRunnerModel", "endNumber", "[I", true)
  | 20 => ("BehaviorRunnerModel", "at", "I", false)
  | 21 => ("BehaviorRunnerModel", "made", "I", false)
  | 22 => ("BehaviorRunnerModel", "isFaulty", "Z", false)
  | 23 => ("BehaviorRunnerModel", "newKind", "[I", true)
  | 24 => ("BehaviorRunnerModel", "newNumber", "[I", true)
  | 25 => ("BehaviorRunnerModel", "newAbove", "[I", true)
  | 26 => ("BehaviorRunnerModel", "newDepth", "[I", true)
  | 27 => ("BehaviorRunnerModel", "newLast", "[I", true)
  | 28 => ("BehaviorRunnerModel", "newKey", "[I", true)
  | 29 => ("BehaviorRunnerModel", "newSign", "[I", true)
  | 30 => ("BehaviorRunnerModel", "newWorth", "[I", true)
  | 31 => ("BehaviorRunnerModel", "newEndKey", "[I", true)
  | 32 => ("BehaviorRunnerModel", "newEndSign", "[I", true)
  | 33 => ("BehaviorRunnerModel", "newEndWorth", "[I", true)
  | 34 => ("BehaviorRunnerModel", "open", "[I", true)
  | 35 => ("BehaviorRunnerModel", "opened", "I", false)
  | 36 => ("BehaviorRunnerModel", "isMore", "Z", false)
  | 37 => ("BehaviorRunnerModel", "budget", "I", false)
  | _ => ("BehaviorRunnerModel", "passed", "I", false)
def tyX12 : Nat → FieldType := fun k => match k with
  | 0 => .array .int
  | 1 => .array .int
  | 2 => .array .int
  | 3 => .boolean
  | 4 => .array .int
  | 5 => .array .int
  | 6 => .int
  | 7 => .int
  | 8 => .int
  | 9 => .array .int
  | 10 => .array .int
  | 11 => .array .int
  | 12 => .array .int
  | 13 => .array .int
  | 14 => .array .int
  | 15 => .array .int
  | 16 => .array .int
  | 17 => .array .int
  | 18 => .array .int
  | 19 => .array .int
  | 20 => .int
  | 21 => .int
  | 22 => .boolean
  | 23 => .array .int
  | 24 => .array .int
  | 25 => .array .int
  | 26 => .array .int
  | 27 => .array .int
  | 28 => .array .int
  | 29 => .array .int
  | 30 => .array .int
  | 31 => .array .int
  | 32 => .array .int
  | 33 => .array .int
  | 34 => .array .int
  | 35 => .int
  | 36 => .boolean
  | 37 => .int
  | _ => .int
theorem nmX12 : ∀ a, a < 39 → ∀ b, b < 39 → a ≠ b → (TX12 a).2.1 ≠ (TX12 b).2.1 := by decide +kernel
theorem tyX12_ok : ∀ k, k < 39 → parseFieldDescriptor (TX12 k).2.2.1 = some (tyX12 k) := by decide +kernel
abbrev cX12_init : ByteArray := prog_14_method_1_code
def yX12_init : MethodName := ⟨RX12, "<init>", "()V"⟩
abbrev cX12_isIn : ByteArray := prog_14_method_2_code
def yX12_isIn : MethodName := ⟨RX12, "isIn", "(III)Z"⟩
abbrev cX12_copies : ByteArray := prog_14_method_3_code
def yX12_copies : MethodName := ⟨RX12, "copies", "([I[I)V"⟩
abbrev cX12_of : ByteArray := prog_14_method_4_code
def yX12_of : MethodName := ⟨RX12, "of", "(II)I"⟩
abbrev cX12_sets : ByteArray := prog_14_method_5_code
def yX12_sets : MethodName := ⟨RX12, "sets", "(III)V"⟩
abbrev cX12_adds : ByteArray := prog_14_method_6_code
def yX12_adds : MethodName := ⟨RX12, "adds", "(II)V"⟩
abbrev cX12_append : ByteArray := prog_14_method_7_code
def yX12_append : MethodName := ⟨RX12, "append", "(II)I"⟩
abbrev cX12_here : ByteArray := prog_14_method_8_code
def yX12_here : MethodName := ⟨RX12, "here", "()I"⟩
abbrev cX12_digit : ByteArray := prog_14_method_9_code
def yX12_digit : MethodName := ⟨RX12, "digit", "(II)I"⟩
abbrev cX12_worth : ByteArray := prog_14_method_10_code
def yX12_worth : MethodName := ⟨RX12, "worth", "()I"⟩
abbrev cX12_sign : ByteArray := prog_14_method_11_code
def yX12_sign : MethodName := ⟨RX12, "sign", "(Z)I"⟩
abbrev cX12_deed : ByteArray := prog_14_method_12_code
def yX12_deed : MethodName := ⟨RX12, "deed", "(IZ)V"⟩
abbrev cX12_end : ByteArray := prog_14_method_13_code
def yX12_end : MethodName := ⟨RX12, "end", "(I)V"⟩
abbrev cX12_kindOf : ByteArray := prog_14_method_14_code
def yX12_kindOf : MethodName := ⟨RX12, "kindOf", "(I)I"⟩
abbrev cX12_isList : ByteArray := prog_14_method_15_code
def yX12_isList : MethodName := ⟨RX12, "isList", "(I)Z"⟩
abbrev cX12_begins : ByteArray := prog_14_method_16_code
def yX12_begins : MethodName := ⟨RX12, "begins", "()V"⟩
abbrev cX12_goesUp : ByteArray := prog_14_method_17_code
def yX12_goesUp : MethodName := ⟨RX12, "goesUp", "()V"⟩
abbrev cX12_readTree : ByteArray := prog_14_method_18_code
def yX12_readTree : MethodName := ⟨RX12, "readTree", "()I"⟩
abbrev cX12_set : ByteArray := prog_14_method_19_code
def yX12_set : MethodName := ⟨RX12, "set", "(II)I"⟩
abbrev cX12_place : ByteArray := prog_14_method_20_code
def yX12_place : MethodName := ⟨RX12, "place", "(II)I"⟩
abbrev cX12_value : ByteArray := prog_14_method_21_code
def yX12_value : MethodName := ⟨RX12, "value", "(II)I"⟩
abbrev cX12_does : ByteArray := prog_14_method_22_code
def yX12_does : MethodName := ⟨RX12, "does", "(IIII)V"⟩
abbrev cX12_holds : ByteArray := prog_14_method_23_code
def yX12_holds : MethodName := ⟨RX12, "holds", "(I)Z"⟩
abbrev cX12_tells : ByteArray := prog_14_method_24_code
def yX12_tells : MethodName := ⟨RX12, "tells", "(II)V"⟩
abbrev cX12_ends : ByteArray := prog_14_method_25_code
def yX12_ends : MethodName := ⟨RX12, "ends", "(I)V"⟩
abbrev cX12_aborts : ByteArray := prog_14_method_26_code
def yX12_aborts : MethodName := ⟨RX12, "aborts", "(I)I"⟩
abbrev cX12_childOf : ByteArray := prog_14_method_27_code
def yX12_childOf : MethodName := ⟨RX12, "childOf", "(II)I"⟩
abbrev cX12_children : ByteArray := prog_14_method_28_code
def yX12_children : MethodName := ⟨RX12, "children", "(I)I"⟩
abbrev cX12_enters : ByteArray := prog_14_method_29_code
def yX12_enters : MethodName := ⟨RX12, "enters", "(I)I"⟩
abbrev cX12_acts : ByteArray := prog_14_method_30_code
def yX12_acts : MethodName := ⟨RX12, "acts", "(I)I"⟩
abbrev cX12_asks : ByteArray := prog_14_method_31_code
def yX12_asks : MethodName := ⟨RX12, "asks", "(II)I"⟩
abbrev cX12_goesOn : ByteArray := prog_14_method_32_code
def yX12_goesOn : MethodName := ⟨RX12, "goesOn", "(I)I"⟩
abbrev cX12_bits : ByteArray := prog_14_method_33_code
def yX12_bits : MethodName := ⟨RX12, "bits", "(I)I"⟩
abbrev cX12_hears : ByteArray := prog_14_method_34_code
def yX12_hears : MethodName := ⟨RX12, "hears", "(II)I"⟩
abbrev cX12_counts : ByteArray := prog_14_method_35_code
def yX12_counts : MethodName := ⟨RX12, "counts", "(III)I"⟩
abbrev cX12_leaves : ByteArray := prog_14_method_36_code
def yX12_leaves : MethodName := ⟨RX12, "leaves", "(II)V"⟩
abbrev cX12_goes : ByteArray := prog_14_method_37_code
def yX12_goes : MethodName := ⟨RX12, "goes", "(I)I"⟩
abbrev cX12_ticked : ByteArray := prog_14_method_38_code
def yX12_ticked : MethodName := ⟨RX12, "ticked", "(I)I"⟩
abbrev cX12_tick : ByteArray := prog_14_method_39_code
def yX12_tick : MethodName := ⟨RX12, "tick", "(I)I"⟩
abbrev cX12_runs : ByteArray := prog_14_method_40_code
def yX12_runs : MethodName := ⟨RX12, "runs", "(I)I"⟩
abbrev cX12_run : ByteArray := prog_14_method_41_code
def yX12_run : MethodName := ⟨RX12, "run", "(I)I"⟩
abbrev cX12_foresee : ByteArray := prog_14_method_42_code
def yX12_foresee : MethodName := ⟨RX12, "foresee", "()I"⟩
abbrev cX12_ticksToGo : ByteArray := prog_14_method_43_code
def yX12_ticksToGo : MethodName := ⟨RX12, "ticksToGo", "()I"⟩
abbrev cX12_abort : ByteArray := prog_14_method_44_code
def yX12_abort : MethodName := ⟨RX12, "abort", "()I"⟩
abbrev cX12_node : ByteArray := prog_14_method_45_code
def yX12_node : MethodName := ⟨RX12, "node", "(II)I"⟩
abbrev cX12_child : ByteArray := prog_14_method_46_code
def yX12_child : MethodName := ⟨RX12, "child", "(II)I"⟩
abbrev cX12_underWay : ByteArray := prog_14_method_47_code
def yX12_underWay : MethodName := ⟨RX12, "underWay", "(I)I"⟩
abbrev cX12_pending : ByteArray := prog_14_method_48_code
def yX12_pending : MethodName := ⟨RX12, "pending", "()I"⟩
abbrev cX12_trace : ByteArray := prog_14_method_49_code
def yX12_trace : MethodName := ⟨RX12, "trace", "(II)I"⟩
abbrev cX12_count : ByteArray := prog_14_method_50_code
def yX12_count : MethodName := ⟨RX12, "count", "(I)I"⟩
abbrev cX12_writes : ByteArray := prog_14_method_51_code
def yX12_writes : MethodName := ⟨RX12, "writes", "(I)V"⟩
abbrev cX12_letter : ByteArray := prog_14_method_52_code
def yX12_letter : MethodName := ⟨RX12, "letter", "(I)I"⟩
abbrev cX12_writesDeed : ByteArray := prog_14_method_53_code
def yX12_writesDeed : MethodName := ⟨RX12, "writesDeed", "(III)V"⟩
abbrev cX12_writesNode : ByteArray := prog_14_method_54_code
def yX12_writesNode : MethodName := ⟨RX12, "writesNode", "(I)V"⟩
abbrev cX12_write : ByteArray := prog_14_method_55_code
def yX12_write : MethodName := ⟨RX12, "write", "()I"⟩
abbrev cX12_written : ByteArray := prog_14_method_56_code
def yX12_written : MethodName := ⟨RX12, "written", "(I)I"⟩
abbrev cX12_save : ByteArray := prog_14_method_57_code
def yX12_save : MethodName := ⟨RX12, "save", "()I"⟩
abbrev cX12_restore : ByteArray := prog_14_method_58_code
def yX12_restore : MethodName := ⟨RX12, "restore", "()I"⟩
def RJ11 : String := "java/lang/Character"
abbrev cJ11_isValidCodePoint_9a6ad : ByteArray := prog_15_method_11_code
def yJ11_isValidCodePoint_9a6ad : MethodName := ⟨RJ11, "isValidCodePoint", "(I)Z"⟩
abbrev cJ11_highSurrogate_5068e : ByteArray := prog_15_method_28_code
def yJ11_highSurrogate_5068e : MethodName := ⟨RJ11, "highSurrogate", "(I)C"⟩
abbrev cJ11_lowSurrogate_5068e : ByteArray := prog_15_method_29_code
def yJ11_lowSurrogate_5068e : MethodName := ⟨RJ11, "lowSurrogate", "(I)C"⟩
def RJ9 : String := "java/lang/Math"
abbrev cJ9_floorMod_7cf53 : ByteArray := prog_16_method_50_code
def yJ9_floorMod_7cf53 : MethodName := ⟨RJ9, "floorMod", "(II)I"⟩
abbrev cJ9_max_7cf53 : ByteArray := prog_16_method_65_code
def yJ9_max_7cf53 : MethodName := ⟨RJ9, "max", "(II)I"⟩
abbrev cJ9_min_7cf53 : ByteArray := prog_16_method_69_code
def yJ9_min_7cf53 : MethodName := ⟨RJ9, "min", "(II)I"⟩
def RJ0 : String := "java/lang/String"
abbrev cJ0_length_8abf5 : ByteArray := prog_17_method_54_code
def yJ0_length_8abf5 : MethodName := ⟨RJ0, "length", "()I"⟩
abbrev cJ0_charAt_5068e : ByteArray := prog_17_method_56_code
def yJ0_charAt_5068e : MethodName := ⟨RJ0, "charAt", "(I)C"⟩
abbrev cJ0_indexOf_0f7a4 : ByteArray := prog_17_method_79_code
def yJ0_indexOf_0f7a4 : MethodName := ⟨RJ0, "indexOf", "(I)I"⟩
abbrev cJ0_indexOf_7cf53 : ByteArray := prog_17_method_80_code
def yJ0_indexOf_7cf53 : MethodName := ⟨RJ0, "indexOf", "(II)I"⟩
abbrev cJ0_coder_7d493 : ByteArray := prog_17_method_152_code
def yJ0_coder_7d493 : MethodName := ⟨RJ0, "coder", "()B"⟩
abbrev cJ0_isLatin1_aae02 : ByteArray := prog_17_method_154_code
def yJ0_isLatin1_aae02 : MethodName := ⟨RJ0, "isLatin1", "()Z"⟩
abbrev cJ0_checkIndex_df160 : ByteArray := prog_17_method_155_code
def yJ0_checkIndex_df160 : MethodName := ⟨RJ0, "checkIndex", "(II)V"⟩
abbrev cJ0_checkBoundsBeginEnd_23922 : ByteArray := prog_17_method_158_code
def yJ0_checkBoundsBeginEnd_23922 : MethodName := ⟨RJ0, "checkBoundsBeginEnd", "(III)V"⟩
def RJ1 : String := "java/lang/StringLatin1"
abbrev cJ1_charAt_3b067 : ByteArray := prog_18_method_2_code
def yJ1_charAt_3b067 : MethodName := ⟨RJ1, "charAt", "([BI)C"⟩
abbrev cJ1_canEncode_9a6ad : ByteArray := prog_18_method_4_code
def yJ1_canEncode_9a6ad : MethodName := ⟨RJ1, "canEncode", "(I)Z"⟩
abbrev cJ1_indexOf_4cfef : ByteArray := prog_18_method_22_code
def yJ1_indexOf_4cfef : MethodName := ⟨RJ1, "indexOf", "([BIII)I"⟩
abbrev cJ1_indexOfChar_4cfef : ByteArray := prog_18_method_23_code
def yJ1_indexOfChar_4cfef : MethodName := ⟨RJ1, "indexOfChar", "([BIII)I"⟩
def RJ2 : String := "java/lang/StringUTF16"
abbrev cJ2_getChar_3b067 : ByteArray := prog_19_method_5_code
def yJ2_getChar_3b067 : MethodName := ⟨RJ2, "getChar", "([BI)C"⟩
abbrev cJ2_length_9d52b : ByteArray := prog_19_method_6_code
def yJ2_length_9d52b : MethodName := ⟨RJ2, "length", "([B)I"⟩
abbrev cJ2_indexOf_4cfef : ByteArray := prog_19_method_40_code
def yJ2_indexOf_4cfef : MethodName := ⟨RJ2, "indexOf", "([BIII)I"⟩
abbrev cJ2_indexOfChar_4cfef : ByteArray := prog_19_method_47_code
def yJ2_indexOfChar_4cfef : MethodName := ⟨RJ2, "indexOfChar", "([BIII)I"⟩
abbrev cJ2_indexOfCharUnsafe_4cfef : ByteArray := prog_19_method_48_code
def yJ2_indexOfCharUnsafe_4cfef : MethodName := ⟨RJ2, "indexOfCharUnsafe", "([BIII)I"⟩
abbrev cJ2_indexOfSupplementary_4cfef : ByteArray := prog_19_method_49_code
def yJ2_indexOfSupplementary_4cfef : MethodName := ⟨RJ2, "indexOfSupplementary", "([BIII)I"⟩
abbrev cJ2_charAt_3b067 : ByteArray := prog_19_method_83_code
def yJ2_charAt_3b067 : MethodName := ⟨RJ2, "charAt", "([BI)C"⟩
abbrev cJ2_checkIndex_2214a : ByteArray := prog_19_method_91_code
def yJ2_checkIndex_2214a : MethodName := ⟨RJ2, "checkIndex", "(I[B)V"⟩
abbrev cJ2_checkBoundsBeginEnd_d044e : ByteArray := prog_19_method_93_code
def yJ2_checkBoundsBeginEnd_d044e : MethodName := ⟨RJ2, "checkBoundsBeginEnd", "(II[B)V"⟩
def RJ10 : String := "java/lang/System"
def RJ3 : String := "jdk/internal/util/Preconditions"
abbrev cJ3_checkIndex_8e157 : ByteArray := prog_21_method_11_code
def yJ3_checkIndex_8e157 : MethodName := ⟨RJ3, "checkIndex", "(IILjava/util/function/BiFunction;)I"⟩
abbrev cJ3_checkFromToIndex_8c36e : ByteArray := prog_21_method_12_code
def yJ3_checkFromToIndex_8c36e : MethodName := ⟨RJ3, "checkFromToIndex", "(IIILjava/util/function/BiFunction;)I"⟩
def RL : String := "BehaviorRunnerLaw"
abbrev cL_law : ByteArray := code
def yL_law : MethodName := ⟨RL, "law", "([I)Z"⟩
abbrev vwCl : List vw_C := [(RX0, TX0, 1), (RX1, TX1, 5), (RX2, TX2, 11), (RX3, TX3, 10), (RX4, TX4, 14), (RX5, TX5, 3), (RX6, TX6, 3), (RX7, TX7, 2), (RX8, TX8, 2), (RX9, TX9, 2), (RX10, TX10, 2), (RX11, TX11, 10), (RX12, TX12, 39)]
/-- the words of all methods: those of lw_tbl that go along with a call -/
def TBL : List Cond := lw_tbl.filter goodWord
theorem tbl_good : GoodIn TBL TBL := fun w h => ⟨h, good_of_word (List.mem_filter.mp h).2⟩
theorem tbl_in : ∀ w ∈ TBL, w ∈ lw_tbl := fun w h => (List.mem_filter.mp h).1
theorem tb_of {w : Cond} (h : w ∈ tables_1) (g : goodWord w = true) : w ∈ TBL := List.mem_filter.mpr ⟨List.mem_append_right _ h, g⟩
theorem tb1 {w : Cond} (i : Nat) (h : tables_1_1[i]? = some w) : w ∈ tables_1 := List.mem_append_left _ (List.mem_of_getElem? h)
theorem tb2 {w : Cond} (i : Nat) (h : tables_1_2[i]? = some w) : w ∈ tables_1 := List.mem_append_right _ (List.mem_append_left _ (List.mem_of_getElem? h))
theorem tb3 {w : Cond} (i : Nat) (h : tables_1_3[i]? = some w) : w ∈ tables_1 := List.mem_append_right _ (List.mem_append_right _ (List.mem_append_left _ (List.mem_of_getElem? h)))
theorem tb4 {w : Cond} (i : Nat) (h : tables_1_4[i]? = some w) : w ∈ tables_1 := List.mem_append_right _ (List.mem_append_right _ (List.mem_append_right _ (List.mem_append_left _ (List.mem_of_getElem? h))))
theorem tb5 {w : Cond} (i : Nat) (h : tables_1_5[i]? = some w) : w ∈ tables_1 := List.mem_append_right _ (List.mem_append_right _ (List.mem_append_right _ (List.mem_append_right _ (List.mem_of_getElem? h))))
theorem tbp {y : MethodName} {n : Nat} (h : (y, n) ∈ lw_privs) (g : goodWord (.selects y.cls y y) = true) : Cond.selects y.cls y y ∈ TBL := List.mem_filter.mpr ⟨List.mem_append_left _ (List.mem_map.mpr ⟨_, h, rfl⟩), g⟩
theorem lwp1 {q : MethodName × Nat} (i : Nat) (h : lw_privs_1[i]? = some q) : q ∈ lw_privs := List.mem_append_left _ (List.mem_of_getElem? h)
theorem lwp2 {q : MethodName × Nat} (i : Nat) (h : lw_privs_2[i]? = some q) : q ∈ lw_privs := List.mem_append_right _ (List.mem_append_left _ (List.mem_of_getElem? h))
theorem lwp3 {q : MethodName × Nat} (i : Nat) (h : lw_privs_3[i]? = some q) : q ∈ lw_privs := List.mem_append_right _ (List.mem_append_right _ (List.mem_append_left _ (List.mem_of_getElem? h)))
theorem lwp4 {q : MethodName × Nat} (i : Nat) (h : lw_privs_4[i]? = some q) : q ∈ lw_privs := List.mem_append_right _ (List.mem_append_right _ (List.mem_append_right _ (List.mem_of_getElem? h)))
def isNest : Cond → Bool
  | .fieldLinkNest _ _ _ _ _ _ => true
  | .methodLinkNest _ _ _ _ => true
  | _ => false
theorem inT0 : ∀ w ∈ u_ws RX0 TX0 1, w ∈ TBL := List.forall_mem_cons.mpr ⟨(tb_of (tb1 58 rfl) rfl), fun _ h => absurd h List.not_mem_nil⟩
theorem inT1 : ∀ w ∈ u_ws RX1 TX1 5, w ∈ TBL := List.forall_mem_cons.mpr ⟨(tb_of (tb1 239 rfl) rfl), List.forall_mem_cons.mpr ⟨(tb_of (tb2 1 rfl) rfl), List.forall_mem_cons.mpr ⟨(tb_of (tb2 3 rfl) rfl), List.forall_mem_cons.mpr ⟨(tb_of (tb2 5 rfl) rfl), List.forall_mem_cons.mpr ⟨(tb_of (tb2 7 rfl) rfl), fun _ h => absurd h List.not_mem_nil⟩⟩⟩⟩⟩
theorem inT2 : ∀ w ∈ u_ws RX2 TX2 11, w ∈ TBL := List.forall_mem_cons.mpr ⟨(tb_of (tb1 92 rfl) rfl), List.forall_mem_cons.mpr ⟨(tb_of (tb1 94 rfl) rfl), List.forall_mem_cons.mpr ⟨(tb_of (tb1 96 rfl) rfl), List.forall_mem_cons.mpr ⟨(tb_of (tb1 98 rfl) rfl), List.forall_mem_cons.mpr ⟨(tb_of (tb1 100 rfl) rfl), List.forall_mem_cons.mpr ⟨(tb_of (tb1 102 rfl) rfl), List.forall_mem_cons.mpr ⟨(tb_of (tb1 104 rfl) rfl), List.forall_mem_cons.mpr ⟨(tb_of (tb1 106 rfl) rfl), List.forall_mem_cons.mpr ⟨(tb_of (tb1 108 rfl) rfl), List.forall_mem_cons.mpr ⟨(tb_of (tb1 110 rfl) rfl), List.forall_mem_cons.mpr ⟨(tb_of (tb1 112 rfl) rfl), fun _ h => absurd h List.not_mem_nil⟩⟩⟩⟩⟩⟩⟩⟩⟩⟩⟩
theorem inT3 : ∀ w ∈ u_ws RX3 TX3 10, w ∈ TBL := List.forall_mem_cons.mpr ⟨(tb_of (tb1 170 rfl) rfl), List.forall_mem_cons.mpr ⟨(tb_of (tb1 172 rfl) rfl), List.forall_mem_cons.mpr ⟨(tb_of (tb1 174 rfl) rfl), List.forall_mem_cons.mpr ⟨(tb_of (tb1 176 rfl) rfl), List.forall_mem_cons.mpr ⟨(tb_of (tb1 178 rfl) rfl), List.forall_mem_cons.mpr ⟨(tb_of (tb1 180 rfl) rfl), List.forall_mem_cons.mpr ⟨(tb_of (tb1 182 rfl) rfl), List.forall_mem_cons.mpr ⟨(tb_of (tb1 184 rfl) rfl), List.forall_mem_cons.mpr ⟨(tb_of (tb1 186 rfl) rfl), List.forall_mem_cons.mpr ⟨(tb_of (tb1 188 rfl) rfl), fun _ h => absurd h List.not_mem_nil⟩⟩⟩⟩⟩⟩⟩⟩⟩⟩
theorem inT4 : ∀ w ∈ u_ws RX4 TX4 14, w ∈ TBL := List.forall_mem_cons.mpr ⟨(tb_of (tb2 62 rfl) rfl), List.forall_mem_cons.mpr ⟨(tb_of (tb2 64 rfl) rfl), List.forall_mem_cons.mpr ⟨(tb_of (tb2 66 rfl) rfl), List.forall_mem_cons.mpr ⟨(tb_of (tb2 68 rfl) rfl), List.forall_mem_cons.mpr ⟨(tb_of (tb2 70 rfl) rfl), List.forall_mem_cons.mpr ⟨(tb_of (tb2 72 rfl) rfl), List.forall_mem_cons.mpr ⟨(tb_of (tb2 74 rfl) rfl), List.forall_mem_cons.mpr ⟨(tb_of (tb2 76 rfl) rfl), List.forall_mem_cons.mpr ⟨(tb_of (tb2 78 rfl) rfl), List.forall_mem_cons.mpr ⟨(tb_of (tb2 80 rfl) rfl), List.forall_mem_cons.mpr ⟨(tb_of (tb2 82 rfl) rfl), List.forall_mem_cons.mpr ⟨(tb_of (tb2 84 rfl) rfl), List.forall_mem_cons.mpr ⟨(tb_of (tb2 86 rfl) rfl), List.forall_mem_cons.mpr ⟨(tb_of (tb2 88 rfl) rfl), fun _ h => absurd h List.not_mem_nil⟩⟩⟩⟩⟩⟩⟩⟩⟩⟩⟩⟩⟩⟩
theorem inT5 : ∀ w ∈ u_ws RX5 TX5 3, w ∈ TBL := List.forall_mem_cons.mpr ⟨(tb_of (tb2 152 rfl) rfl), List.forall_mem_cons.mpr ⟨(tb_of (tb2 154 rfl) rfl), List.forall_mem_cons.mpr ⟨(tb_of (tb2 156 rfl) rfl), fun _ h => absurd h List.not_mem_nil⟩⟩⟩
theorem inT6 : ∀ w ∈ u_ws RX6 TX6 3, w ∈ TBL := List.forall_mem_cons.mpr ⟨(tb_of (tb1 194 rfl) rfl), List.forall_mem_cons.mpr ⟨(tb_of (tb1 196 rfl) rfl), List.forall_mem_cons.mpr ⟨(tb_of (tb1 198 rfl) rfl), fun _ h => absurd h List.not_mem_nil⟩⟩⟩
theorem inT7 : ∀ w ∈ u_ws RX7 TX7 2, w ∈ TBL := List.forall_mem_cons.mpr ⟨(tb_of (tb1 39 rfl) rfl), List.forall_mem_cons.mpr ⟨(tb_of (tb1 41 rfl) rfl), fun _ h => absurd h List.not_mem_nil⟩⟩
theorem inT8 : ∀ w ∈ u_ws RX8 TX8 2, w ∈ TBL := List.forall_mem_cons.mpr ⟨(tb_of (tb2 95 rfl) rfl), List.forall_mem_cons.mpr ⟨(tb_of (tb2 97 rfl) rfl), fun _ h => absurd h List.not_mem_nil⟩⟩
theorem inT9 : ∀ w ∈ u_ws RX9 TX9 2, w ∈ TBL := List.forall_mem_cons.mpr ⟨(tb_of (tb1 119 rfl) rfl), List.forall_mem_cons.mpr ⟨(tb_of (tb1 121 rfl) rfl), fun _ h => absurd h List.not_mem_nil⟩⟩
theorem inT10 : ∀ w ∈ u_ws RX10 TX10 2, w ∈ TBL := List.forall_mem_cons.mpr ⟨(tb_of (tb4 71 rfl) rfl), List.forall_mem_cons.mpr ⟨(tb_of (tb4 73 rfl) rfl), fun _ h => absurd h List.not_mem_nil⟩⟩
theorem inT11 : ∀ w ∈ u_ws RX11 TX11 10, w ∈ TBL := List.forall_mem_cons.mpr ⟨(tb_of (tb2 110 rfl) rfl), List.forall_mem_cons.mpr ⟨(tb_of (tb2 112 rfl) rfl), List.forall_mem_cons.mpr ⟨(tb_of (tb2 114 rfl) rfl), List.forall_mem_cons.mpr ⟨(tb_of (tb2 116 rfl) rfl), List.forall_mem_cons.mpr ⟨(tb_of (tb2 118 rfl) rfl), List.forall_mem_cons.mpr ⟨(tb_of (tb2 120 rfl) rfl), List.forall_mem_cons.mpr ⟨(tb_of (tb2 122 rfl) rfl), List.forall_mem_cons.mpr ⟨(tb_of (tb2 124 rfl) rfl), List.forall_mem_cons.mpr ⟨(tb_of (tb2 126 rfl) rfl), List.forall_mem_cons.mpr ⟨(tb_of (tb2 128 rfl) rfl), fun _ h => absurd h List.not_mem_nil⟩⟩⟩⟩⟩⟩⟩⟩⟩⟩
theorem inT12 : ∀ w ∈ u_ws RX12 TX12 39, w ∈ TBL := List.forall_mem_cons.mpr ⟨(tb_of (tb4 167 rfl) rfl), List.forall_mem_cons.mpr ⟨(tb_of (tb4 169 rfl) rfl), List.forall_mem_cons.mpr ⟨(tb_of (tb4 171 rfl) rfl), List.forall_mem_cons.mpr ⟨(tb_of (tb4 173 rfl) rfl), List.forall_mem_cons.mpr ⟨(tb_of (tb4 175 rfl) rfl), List.forall_mem_cons.mpr ⟨(tb_of (tb4 177 rfl) rfl), List.forall_mem_cons.mpr ⟨(tb_of (tb4 179 rfl) rfl), List.forall_mem_cons.mpr ⟨(tb_of (tb4 181 rfl) rfl), List.forall_mem_cons.mpr ⟨(tb_of (tb4 183 rfl) rfl), List.forall_mem_cons.mpr ⟨(tb_of (tb4 185 rfl) rfl), List.forall_mem_cons.mpr ⟨(tb_of (tb4 187 rfl) rfl), List.forall_mem_cons.mpr ⟨(tb_of (tb4 189 rfl) rfl), List.forall_mem_cons.mpr ⟨(tb_of (tb4 191 rfl) rfl), List.forall_mem_cons.mpr ⟨(tb_of (tb4 193 rfl) rfl), List.forall_mem_cons.mpr ⟨(tb_of (tb4 195 rfl) rfl), List.forall_mem_cons.mpr ⟨(tb_of (tb4 197 rfl) rfl), List.forall_mem_cons.mpr ⟨(tb_of (tb4 199 rfl) rfl), List.forall_mem_cons.mpr ⟨(tb_of (tb4 201 rfl) rfl), List.forall_mem_cons.mpr ⟨(tb_of (tb4 203 rfl) rfl), List.forall_mem_cons.mpr ⟨(tb_of (tb4 205 rfl) rfl), List.forall_mem_cons.mpr ⟨(tb_of (tb4 207 rfl) rfl), List.forall_mem_cons.mpr ⟨(tb_of (tb4 209 rfl) rfl), List.forall_mem_cons.mpr ⟨(tb_of (tb4 211 rfl) rfl), List.forall_mem_cons.mpr ⟨(tb_of (tb4 213 rfl) rfl), List.forall_mem_cons.mpr ⟨(tb_of (tb4 215 rfl) rfl), List.forall_mem_cons.mpr ⟨(tb_of (tb4 217 rfl) rfl), List.forall_mem_cons.mpr ⟨(tb_of (tb4 219 rfl) rfl), List.forall_mem_cons.mpr ⟨(tb_of (tb4 221 rfl) rfl), List.forall_mem_cons.mpr ⟨(tb_of (tb4 223 rfl) rfl), List.forall_mem_cons.mpr ⟨(tb_of (tb4 225 rfl) rfl), List.forall_mem_cons.mpr ⟨(tb_of (tb4 227 rfl) rfl), List.forall_mem_cons.mpr ⟨(tb_of (tb4 229 rfl) rfl), List.forall_mem_cons.mpr ⟨(tb_of (tb4 231 rfl) rfl), List.forall_mem_cons.mpr ⟨(tb_of (tb4 233 rfl) rfl), List.forall_mem_cons.mpr ⟨(tb_of (tb4 235 rfl) rfl), List.forall_mem_cons.mpr ⟨(tb_of (tb4 237 rfl) rfl), List.forall_mem_cons.mpr ⟨(tb_of (tb4 239 rfl) rfl), List.forall_mem_cons.mpr ⟨(tb_of (tb5 1 rfl) rfl), List.forall_mem_cons.mpr ⟨(tb_of (tb5 3 rfl) rfl), fun _ h => absurd h List.not_mem_nil⟩⟩⟩⟩⟩⟩⟩⟩⟩⟩⟩⟩⟩⟩⟩⟩⟩⟩⟩⟩⟩⟩⟩⟩⟩⟩⟩⟩⟩⟩⟩⟩⟩⟩⟩⟩⟩⟩⟩
/-- a field's link in a constant pool: class c of vwCl, its field k -/
def FLk (own : String) (idx c k : Nat) : Prop := ∃ (C : String) (T : u_T) (N : Nat), vwCl[c]? = some (C, T, N) ∧ k < N ∧ (∀ w ∈ u_ws C T N, w ∈ TBL) ∧ (T k).1 = C ∧ (Cond.fieldLink own idx C (T k).2.1 (T k).2.2.1 ∈ TBL ∨ ∃ host, Cond.fieldLinkNest own idx C (T k).2.1 (T k).2.2.1 host ∈ tables_1)
/-- a field that is written outside of constructors, its type -/
def FLw (c k : Nat) (ty : FieldType) : Prop := ∃ (C : String) (T : u_T) (N : Nat) (ty0 : Nat → FieldType), vwCl[c]? = some (C, T, N) ∧ (∀ k, k < N → parseFieldDescriptor (T k).2.2.1 = some (ty0 k)) ∧ (∀ a, a < N → ∀ b, b < N → a ≠ b → (T a).2.1 ≠ (T b).2.1) ∧ (T k).2.2.2 = false ∧ parseFieldDescriptor (T k).2.2.1 = some ty
theorem fl7_9 : FLk RX7 9 7 0 := ⟨_, _, _, rfl, by decide, inT7, rfl, Or.inl (tb_of (tb1 35 rfl) rfl)⟩
theorem fl7_15 : FLk RX7 15 7 1 := ⟨_, _, _, rfl, by decide, inT7, rfl, Or.inl (tb_of (tb1 36 rfl) rfl)⟩
theorem fl5_32 : FLk RX5 32 7 1 := ⟨_, _, _, rfl, by decide, inT7, rfl, Or.inr ⟨_, (tb1 37 rfl)⟩⟩
theorem fl11_60 : FLk RX11 60 7 1 := ⟨_, _, _, rfl, by decide, inT7, rfl, Or.inr ⟨_, (tb1 38 rfl)⟩⟩
theorem fl0_9 : FLk RX0 9 0 0 := ⟨_, _, _, rfl, by decide, inT0, rfl, Or.inl (tb_of (tb1 57 rfl) rfl)⟩
theorem fl2_9 : FLk RX2 9 2 0 := ⟨_, _, _, rfl, by decide, inT2, rfl, Or.inl (tb_of (tb1 68 rfl) rfl)⟩
theorem fl9_25 : FLk RX9 25 2 0 := ⟨_, _, _, rfl, by decide, inT2, rfl, Or.inr ⟨_, (tb1 69 rfl)⟩⟩
theorem fl11_120 : FLk RX11 120 2 0 := ⟨_, _, _, rfl, by decide, inT2, rfl, Or.inr ⟨_, (tb1 70 rfl)⟩⟩
theorem fl2_15 : FLk RX2 15 2 1 := ⟨_, _, _, rfl, by decide, inT2, rfl, Or.inl (tb_of (tb1 71 rfl) rfl)⟩
theorem fl11_186 : FLk RX11 186 2 1 := ⟨_, _, _, rfl, by decide, inT2, rfl, Or.inr ⟨_, (tb1 72 rfl)⟩⟩
theorem fl2_19 : FLk RX2 19 2 2 := ⟨_, _, _, rfl, by decide, inT2, rfl, Or.inl (tb_of (tb1 73 rfl) rfl)⟩
theorem fl11_189 : FLk RX11 189 2 2 := ⟨_, _, _, rfl, by decide, inT2, rfl, Or.inr ⟨_, (tb1 74 rfl)⟩⟩
theorem fl2_22 : FLk RX2 22 2 3 := ⟨_, _, _, rfl, by decide, inT2, rfl, Or.inl (tb_of (tb1 75 rfl) rfl)⟩
theorem fl11_190 : FLk RX11 190 2 3 := ⟨_, _, _, rfl, by decide, inT2, rfl, Or.inr ⟨_, (tb1 76 rfl)⟩⟩
theorem fl2_25 : FLk RX2 25 2 4 := ⟨_, _, _, rfl, by decide, inT2, rfl, Or.inl (tb_of (tb1 77 rfl) rfl)⟩
theorem fl9_108 : FLk RX9 108 2 4 := ⟨_, _, _, rfl, by decide, inT2, rfl, Or.inr ⟨_, (tb1 78 rfl)⟩⟩
theorem fl11_191 : FLk RX11 191 2 4 := ⟨_, _, _, rfl, by decide, inT2, rfl, Or.inr ⟨_, (tb1 79 rfl)⟩⟩
theorem fl2_28 : FLk RX2 28 2 5 := ⟨_, _, _, rfl, by decide, inT2, rfl, Or.inl (tb_of (tb1 80 rfl) rfl)⟩
theorem fl9_85 : FLk RX9 85 2 5 := ⟨_, _, _, rfl, by decide, inT2, rfl, Or.inr ⟨_, (tb1 81 rfl)⟩⟩
theorem fl11_113 : FLk RX11 113 2 5 := ⟨_, _, _, rfl, by decide, inT2, rfl, Or.inr ⟨_, (tb1 82 rfl)⟩⟩
theorem fl2_31 : FLk RX2 31 2 6 := ⟨_, _, _, rfl, by decide, inT2, rfl, Or.inl (tb_of (tb1 83 rfl) rfl)⟩
theorem fl9_102 : FLk RX9 102 2 6 := ⟨_, _, _, rfl, by decide, inT2, rfl, Or.inr ⟨_, (tb1 84 rfl)⟩⟩
theorem fl11_192 : FLk RX11 192 2 6 := ⟨_, _, _, rfl, by decide, inT2, rfl, Or.inr ⟨_, (tb1 85 rfl)⟩⟩
theorem fl2_34 : FLk RX2 34 2 7 := ⟨_, _, _, rfl, by decide, inT2, rfl, Or.inl (tb_of (tb1 86 rfl) rfl)⟩
theorem fl9_50 : FLk RX9 50 2 7 := ⟨_, _, _, rfl, by decide, inT2, rfl, Or.inr ⟨_, (tb1 87 rfl)⟩⟩
theorem fl11_198 : FLk RX11 198 2 7 := ⟨_, _, _, rfl, by decide, inT2, rfl, Or.inr ⟨_, (tb1 88 rfl)⟩⟩
theorem fl2_37 : FLk RX2 37 2 8 := ⟨_, _, _, rfl, by decide, inT2, rfl, Or.inl (tb_of (tb1 89 rfl) rfl)⟩
theorem fl2_40 : FLk RX2 40 2 9 := ⟨_, _, _, rfl, by decide, inT2, rfl, Or.inl (tb_of (tb1 90 rfl) rfl)⟩
theorem fl2_44 : FLk RX2 44 2 10 := ⟨_, _, _, rfl, by decide, inT2, rfl, Or.inl (tb_of (tb1 91 rfl) rfl)⟩
theorem fl9_12 : FLk RX9 12 9 0 := ⟨_, _, _, rfl, by decide, inT9, rfl, Or.inl (tb_of (tb1 115 rfl) rfl)⟩
theorem fl11_26 : FLk RX11 26 9 0 := ⟨_, _, _, rfl, by decide, inT9, rfl, Or.inr ⟨_, (tb1 116 rfl)⟩⟩
theorem fl9_21 : FLk RX9 21 9 1 := ⟨_, _, _, rfl, by decide, inT9, rfl, Or.inl (tb_of (tb1 117 rfl) rfl)⟩
theorem fl11_31 : FLk RX11 31 9 1 := ⟨_, _, _, rfl, by decide, inT9, rfl, Or.inr ⟨_, (tb1 118 rfl)⟩⟩
theorem fl3_9 : FLk RX3 9 3 0 := ⟨_, _, _, rfl, by decide, inT3, rfl, Or.inl (tb_of (tb1 141 rfl) rfl)⟩
theorem fl9_64 : FLk RX9 64 3 0 := ⟨_, _, _, rfl, by decide, inT3, rfl, Or.inr ⟨_, (tb1 142 rfl)⟩⟩
theorem fl8_40 : FLk RX8 40 3 0 := ⟨_, _, _, rfl, by decide, inT3, rfl, Or.inr ⟨_, (tb1 143 rfl)⟩⟩
theorem fl11_140 : FLk RX11 140 3 0 := ⟨_, _, _, rfl, by decide, inT3, rfl, Or.inr ⟨_, (tb1 144 rfl)⟩⟩
theorem fl3_15 : FLk RX3 15 3 1 := ⟨_, _, _, rfl, by decide, inT3, rfl, Or.inl (tb_of (tb1 145 rfl) rfl)⟩
theorem fl9_144 : FLk RX9 144 3 1 := ⟨_, _, _, rfl, by decide, inT3, rfl, Or.inr ⟨_, (tb1 146 rfl)⟩⟩
theorem fl3_19 : FLk RX3 19 3 2 := ⟨_, _, _, rfl, by decide, inT3, rfl, Or.inl (tb_of (tb1 147 rfl) rfl)⟩
theorem fl9_127 : FLk RX9 127 3 2 := ⟨_, _, _, rfl, by decide, inT3, rfl, Or.inr ⟨_, (tb1 148 rfl)⟩⟩
theorem fl3_23 : FLk RX3 23 3 3 := ⟨_, _, _, rfl, by decide, inT3, rfl, Or.inl (tb_of (tb1 149 rfl) rfl)⟩
theorem fl9_156 : FLk RX9 156 3 3 := ⟨_, _, _, rfl, by decide, inT3, rfl, Or.inr ⟨_, (tb1 150 rfl)⟩⟩
theorem fl3_26 : FLk RX3 26 3 4 := ⟨_, _, _, rfl, by decide, inT3, rfl, Or.inl (tb_of (tb1 151 rfl) rfl)⟩
theorem fl0_27 : FLk RX0 27 3 4 := ⟨_, _, _, rfl, by decide, inT3, rfl, Or.inr ⟨_, (tb1 152 rfl)⟩⟩
theorem fl9_153 : FLk RX9 153 3 4 := ⟨_, _, _, rfl, by decide, inT3, rfl, Or.inr ⟨_, (tb1 153 rfl)⟩⟩
theorem fl11_164 : FLk RX11 164 3 4 := ⟨_, _, _, rfl, by decide, inT3, rfl, Or.inr ⟨_, (tb1 154 rfl)⟩⟩
theorem fl3_29 : FLk RX3 29 3 5 := ⟨_, _, _, rfl, by decide, inT3, rfl, Or.inl (tb_of (tb1 155 rfl) rfl)⟩
theorem fl9_150 : FLk RX9 150 3 5 := ⟨_, _, _, rfl, by decide, inT3, rfl, Or.inr ⟨_, (tb1 156 rfl)⟩⟩
theorem fl11_148 : FLk RX11 148 3 5 := ⟨_, _, _, rfl, by decide, inT3, rfl, Or.inr ⟨_, (tb1 157 rfl)⟩⟩
theorem fl3_32 : FLk RX3 32 3 6 := ⟨_, _, _, rfl, by decide, inT3, rfl, Or.inl (tb_of (tb1 158 rfl) rfl)⟩
theorem fl9_76 : FLk RX9 76 3 6 := ⟨_, _, _, rfl, by decide, inT3, rfl, Or.inr ⟨_, (tb1 159 rfl)⟩⟩
theorem fl11_151 : FLk RX11 151 3 6 := ⟨_, _, _, rfl, by decide, inT3, rfl, Or.inr ⟨_, (tb1 160 rfl)⟩⟩
theorem fl3_35 : FLk RX3 35 3 7 := ⟨_, _, _, rfl, by decide, inT3, rfl, Or.inl (tb_of (tb1 161 rfl) rfl)⟩
theorem fl9_79 : FLk RX9 79 3 7 := ⟨_, _, _, rfl, by decide, inT3, rfl, Or.inr ⟨_, (tb1 162 rfl)⟩⟩
theorem fl11_154 : FLk RX11 154 3 7 := ⟨_, _, _, rfl, by decide, inT3, rfl, Or.inr ⟨_, (tb1 163 rfl)⟩⟩
theorem fl3_38 : FLk RX3 38 3 8 := ⟨_, _, _, rfl, by decide, inT3, rfl, Or.inl (tb_of (tb1 164 rfl) rfl)⟩
theorem fl9_82 : FLk RX9 82 3 8 := ⟨_, _, _, rfl, by decide, inT3, rfl, Or.inr ⟨_, (tb1 165 rfl)⟩⟩
theorem fl11_157 : FLk RX11 157 3 8 := ⟨_, _, _, rfl, by decide, inT3, rfl, Or.inr ⟨_, (tb1 166 rfl)⟩⟩
theorem fl3_41 : FLk RX3 41 3 9 := ⟨_, _, _, rfl, by decide, inT3, rfl, Or.inl (tb_of (tb1 167 rfl) rfl)⟩
theorem fl9_105 : FLk RX9 105 3 9 := ⟨_, _, _, rfl, by decide, inT3, rfl, Or.inr ⟨_, (tb1 168 rfl)⟩⟩
theorem fl11_158 : FLk RX11 158 3 9 := ⟨_, _, _, rfl, by decide, inT3, rfl, Or.inr ⟨_, (tb1 169 rfl)⟩⟩
theorem fl6_11 : FLk RX6 11 6 0 := ⟨_, _, _, rfl, by decide, inT6, rfl, Or.inl (tb_of (tb1 191 rfl) rfl)⟩
theorem fl6_20 : FLk RX6 20 6 1 := ⟨_, _, _, rfl, by decide, inT6, rfl, Or.inl (tb_of (tb1 192 rfl) rfl)⟩
theorem fl6_27 : FLk RX6 27 6 2 := ⟨_, _, _, rfl, by decide, inT6, rfl, Or.inl (tb_of (tb1 193 rfl) rfl)⟩
theorem fl1_7 : FLk RX1 7 1 0 := ⟨_, _, _, rfl, by decide, inT1, rfl, Or.inl (tb_of (tb1 220 rfl) rfl)⟩
theorem fl10_74 : FLk RX10 74 1 0 := ⟨_, _, _, rfl, by decide, inT1, rfl, Or.inr ⟨_, (tb1 221 rfl)⟩⟩
theorem fl9_93 : FLk RX9 93 1 0 := ⟨_, _, _, rfl, by decide, inT1, rfl, Or.inr ⟨_, (tb1 222 rfl)⟩⟩
theorem fl5_101 : FLk RX5 101 1 0 := ⟨_, _, _, rfl, by decide, inT1, rfl, Or.inr ⟨_, (tb1 223 rfl)⟩⟩
theorem fl1_13 : FLk RX1 13 1 1 := ⟨_, _, _, rfl, by decide, inT1, rfl, Or.inl (tb_of (tb1 224 rfl) rfl)⟩
theorem fl0_39 : FLk RX0 39 1 1 := ⟨_, _, _, rfl, by decide, inT1, rfl, Or.inr ⟨_, (tb1 225 rfl)⟩⟩
theorem fl10_101 : FLk RX10 101 1 1 := ⟨_, _, _, rfl, by decide, inT1, rfl, Or.inr ⟨_, (tb1 226 rfl)⟩⟩
theorem fl5_107 : FLk RX5 107 1 1 := ⟨_, _, _, rfl, by decide, inT1, rfl, Or.inr ⟨_, (tb1 227 rfl)⟩⟩
theorem fl1_17 : FLk RX1 17 1 2 := ⟨_, _, _, rfl, by decide, inT1, rfl, Or.inl (tb_of (tb1 228 rfl) rfl)⟩
theorem fl0_46 : FLk RX0 46 1 2 := ⟨_, _, _, rfl, by decide, inT1, rfl, Or.inr ⟨_, (tb1 229 rfl)⟩⟩
theorem fl10_104 : FLk RX10 104 1 2 := ⟨_, _, _, rfl, by decide, inT1, rfl, Or.inr ⟨_, (tb1 230 rfl)⟩⟩
theorem fl5_114 : FLk RX5 114 1 2 := ⟨_, _, _, rfl, by decide, inT1, rfl, Or.inr ⟨_, (tb1 231 rfl)⟩⟩
theorem fl1_21 : FLk RX1 21 1 3 := ⟨_, _, _, rfl, by decide, inT1, rfl, Or.inl (tb_of (tb1 232 rfl) rfl)⟩
theorem fl0_50 : FLk RX0 50 1 3 := ⟨_, _, _, rfl, by decide, inT1, rfl, Or.inr ⟨_, (tb1 233 rfl)⟩⟩
theorem fl10_108 : FLk RX10 108 1 3 := ⟨_, _, _, rfl, by decide, inT1, rfl, Or.inr ⟨_, (tb1 234 rfl)⟩⟩
theorem fl5_118 : FLk RX5 118 1 3 := ⟨_, _, _, rfl, by decide, inT1, rfl, Or.inr ⟨_, (tb1 235 rfl)⟩⟩
theorem fl1_24 : FLk RX1 24 1 4 := ⟨_, _, _, rfl, by decide, inT1, rfl, Or.inl (tb_of (tb1 236 rfl) rfl)⟩
theorem fl0_33 : FLk RX0 33 1 4 := ⟨_, _, _, rfl, by decide, inT1, rfl, Or.inr ⟨_, (tb1 237 rfl)⟩⟩
theorem fl5_123 : FLk RX5 123 1 4 := ⟨_, _, _, rfl, by decide, inT1, rfl, Or.inr ⟨_, (tb1 238 rfl)⟩⟩
theorem fl4_60 : FLk RX4 60 4 0 := ⟨_, _, _, rfl, by decide, inT4, rfl, Or.inl (tb_of (tb2 12 rfl) rfl)⟩
theorem fl9_57 : FLk RX9 57 4 0 := ⟨_, _, _, rfl, by decide, inT4, rfl, Or.inr ⟨_, (tb2 13 rfl)⟩⟩
theorem fl2_59 : FLk RX2 59 4 0 := ⟨_, _, _, rfl, by decide, inT4, rfl, Or.inr ⟨_, (tb2 14 rfl)⟩⟩
theorem fl11_134 : FLk RX11 134 4 0 := ⟨_, _, _, rfl, by decide, inT4, rfl, Or.inr ⟨_, (tb2 15 rfl)⟩⟩
theorem fl4_12 : FLk RX4 12 4 1 := ⟨_, _, _, rfl, by decide, inT4, rfl, Or.inl (tb_of (tb2 16 rfl) rfl)⟩
theorem fl10_70 : FLk RX10 70 4 1 := ⟨_, _, _, rfl, by decide, inT4, rfl, Or.inr ⟨_, (tb2 17 rfl)⟩⟩
theorem fl5_63 : FLk RX5 63 4 1 := ⟨_, _, _, rfl, by decide, inT4, rfl, Or.inr ⟨_, (tb2 18 rfl)⟩⟩
theorem fl9_120 : FLk RX9 120 4 1 := ⟨_, _, _, rfl, by decide, inT4, rfl, Or.inr ⟨_, (tb2 19 rfl)⟩⟩
theorem fl4_18 : FLk RX4 18 4 2 := ⟨_, _, _, rfl, by decide, inT4, rfl, Or.inl (tb_of (tb2 20 rfl) rfl)⟩
theorem fl10_84 : FLk RX10 84 4 2 := ⟨_, _, _, rfl, by decide, inT4, rfl, Or.inr ⟨_, (tb2 21 rfl)⟩⟩
theorem fl9_89 : FLk RX9 89 4 2 := ⟨_, _, _, rfl, by decide, inT4, rfl, Or.inr ⟨_, (tb2 22 rfl)⟩⟩
theorem fl5_93 : FLk RX5 93 4 2 := ⟨_, _, _, rfl, by decide, inT4, rfl, Or.inr ⟨_, (tb2 23 rfl)⟩⟩
theorem fl4_24 : FLk RX4 24 4 3 := ⟨_, _, _, rfl, by decide, inT4, rfl, Or.inl (tb_of (tb2 24 rfl) rfl)⟩
theorem fl6_38 : FLk RX6 38 4 3 := ⟨_, _, _, rfl, by decide, inT4, rfl, Or.inr ⟨_, (tb2 25 rfl)⟩⟩
theorem fl0_21 : FLk RX0 21 4 3 := ⟨_, _, _, rfl, by decide, inT4, rfl, Or.inr ⟨_, (tb2 26 rfl)⟩⟩
theorem fl9_60 : FLk RX9 60 4 3 := ⟨_, _, _, rfl, by decide, inT4, rfl, Or.inr ⟨_, (tb2 27 rfl)⟩⟩
theorem fl8_36 : FLk RX8 36 4 3 := ⟨_, _, _, rfl, by decide, inT4, rfl, Or.inr ⟨_, (tb2 28 rfl)⟩⟩
theorem fl11_124 : FLk RX11 124 4 3 := ⟨_, _, _, rfl, by decide, inT4, rfl, Or.inr ⟨_, (tb2 29 rfl)⟩⟩
theorem fl4_28 : FLk RX4 28 4 4 := ⟨_, _, _, rfl, by decide, inT4, rfl, Or.inl (tb_of (tb2 30 rfl) rfl)⟩
theorem fl10_37 : FLk RX10 37 4 4 := ⟨_, _, _, rfl, by decide, inT4, rfl, Or.inr ⟨_, (tb2 31 rfl)⟩⟩
theorem fl5_50 : FLk RX5 50 4 4 := ⟨_, _, _, rfl, by decide, inT4, rfl, Or.inr ⟨_, (tb2 32 rfl)⟩⟩
theorem fl9_113 : FLk RX9 113 4 4 := ⟨_, _, _, rfl, by decide, inT4, rfl, Or.inr ⟨_, (tb2 33 rfl)⟩⟩
theorem fl11_128 : FLk RX11 128 4 4 := ⟨_, _, _, rfl, by decide, inT4, rfl, Or.inr ⟨_, (tb2 34 rfl)⟩⟩
theorem fl4_32 : FLk RX4 32 4 5 := ⟨_, _, _, rfl, by decide, inT4, rfl, Or.inl (tb_of (tb2 35 rfl) rfl)⟩
theorem fl10_63 : FLk RX10 63 4 5 := ⟨_, _, _, rfl, by decide, inT4, rfl, Or.inr ⟨_, (tb2 36 rfl)⟩⟩
theorem fl9_147 : FLk RX9 147 4 5 := ⟨_, _, _, rfl, by decide, inT4, rfl, Or.inr ⟨_, (tb2 37 rfl)⟩⟩
theorem fl5_86 : FLk RX5 86 4 5 := ⟨_, _, _, rfl, by decide, inT4, rfl, Or.inr ⟨_, (tb2 38 rfl)⟩⟩
theorem fl11_145 : FLk RX11 145 4 5 := ⟨_, _, _, rfl, by decide, inT4, rfl, Or.inr ⟨_, (tb2 39 rfl)⟩⟩
theorem fl4_35 : FLk RX4 35 4 6 := ⟨_, _, _, rfl, by decide, inT4, rfl, Or.inl (tb_of (tb2 40 rfl) rfl)⟩
theorem fl11_161 : FLk RX11 161 4 6 := ⟨_, _, _, rfl, by decide, inT4, rfl, Or.inr ⟨_, (tb2 41 rfl)⟩⟩
theorem fl4_38 : FLk RX4 38 4 7 := ⟨_, _, _, rfl, by decide, inT4, rfl, Or.inl (tb_of (tb2 42 rfl) rfl)⟩
theorem fl11_137 : FLk RX11 137 4 7 := ⟨_, _, _, rfl, by decide, inT4, rfl, Or.inr ⟨_, (tb2 43 rfl)⟩⟩
theorem fl9_178 : FLk RX9 178 4 7 := ⟨_, _, _, rfl, by decide, inT4, rfl, Or.inr ⟨_, (tb2 44 rfl)⟩⟩
theorem fl4_41 : FLk RX4 41 4 8 := ⟨_, _, _, rfl, by decide, inT4, rfl, Or.inl (tb_of (tb2 45 rfl) rfl)⟩
theorem fl9_73 : FLk RX9 73 4 8 := ⟨_, _, _, rfl, by decide, inT4, rfl, Or.inr ⟨_, (tb2 46 rfl)⟩⟩
theorem fl4_45 : FLk RX4 45 4 9 := ⟨_, _, _, rfl, by decide, inT4, rfl, Or.inl (tb_of (tb2 47 rfl) rfl)⟩
theorem fl9_37 : FLk RX9 37 4 9 := ⟨_, _, _, rfl, by decide, inT4, rfl, Or.inr ⟨_, (tb2 48 rfl)⟩⟩
theorem fl10_95 : FLk RX10 95 4 9 := ⟨_, _, _, rfl, by decide, inT4, rfl, Or.inr ⟨_, (tb2 49 rfl)⟩⟩
theorem fl11_131 : FLk RX11 131 4 9 := ⟨_, _, _, rfl, by decide, inT4, rfl, Or.inr ⟨_, (tb2 50 rfl)⟩⟩
theorem fl4_48 : FLk RX4 48 4 10 := ⟨_, _, _, rfl, by decide, inT4, rfl, Or.inl (tb_of (tb2 51 rfl) rfl)⟩
theorem fl10_91 : FLk RX10 91 4 10 := ⟨_, _, _, rfl, by decide, inT4, rfl, Or.inr ⟨_, (tb2 52 rfl)⟩⟩
theorem fl9_133 : FLk RX9 133 4 10 := ⟨_, _, _, rfl, by decide, inT4, rfl, Or.inr ⟨_, (tb2 53 rfl)⟩⟩
theorem fl11_167 : FLk RX11 167 4 10 := ⟨_, _, _, rfl, by decide, inT4, rfl, Or.inr ⟨_, (tb2 54 rfl)⟩⟩
theorem fl4_51 : FLk RX4 51 4 11 := ⟨_, _, _, rfl, by decide, inT4, rfl, Or.inl (tb_of (tb2 55 rfl) rfl)⟩
theorem fl4_54 : FLk RX4 54 4 12 := ⟨_, _, _, rfl, by decide, inT4, rfl, Or.inl (tb_of (tb2 56 rfl) rfl)⟩
theorem fl10_98 : FLk RX10 98 4 12 := ⟨_, _, _, rfl, by decide, inT4, rfl, Or.inr ⟨_, (tb2 57 rfl)⟩⟩
theorem fl9_159 : FLk RX9 159 4 12 := ⟨_, _, _, rfl, by decide, inT4, rfl, Or.inr ⟨_, (tb2 58 rfl)⟩⟩
theorem fl11_170 : FLk RX11 170 4 12 := ⟨_, _, _, rfl, by decide, inT4, rfl, Or.inr ⟨_, (tb2 59 rfl)⟩⟩
theorem fl4_57 : FLk RX4 57 4 13 := ⟨_, _, _, rfl, by decide, inT4, rfl, Or.inl (tb_of (tb2 60 rfl) rfl)⟩
theorem fl9_54 : FLk RX9 54 4 13 := ⟨_, _, _, rfl, by decide, inT4, rfl, Or.inr ⟨_, (tb2 61 rfl)⟩⟩
theorem fl8_11 : FLk RX8 11 8 0 := ⟨_, _, _, rfl, by decide, inT8, rfl, Or.inl (tb_of (tb2 91 rfl) rfl)⟩
theorem fl8_17 : FLk RX8 17 8 1 := ⟨_, _, _, rfl, by decide, inT8, rfl, Or.inl (tb_of (tb2 92 rfl) rfl)⟩
theorem fl5_23 : FLk RX5 23 8 1 := ⟨_, _, _, rfl, by decide, inT8, rfl, Or.inr ⟨_, (tb2 93 rfl)⟩⟩
theorem fl11_183 : FLk RX11 183 8 1 := ⟨_, _, _, rfl, by decide, inT8, rfl, Or.inr ⟨_, (tb2 94 rfl)⟩⟩
theorem fl11_10 : FLk RX11 10 11 0 := ⟨_, _, _, rfl, by decide, inT11, rfl, Or.inl (tb_of (tb2 100 rfl) rfl)⟩
theorem fl11_16 : FLk RX11 16 11 1 := ⟨_, _, _, rfl, by decide, inT11, rfl, Or.inl (tb_of (tb2 101 rfl) rfl)⟩
theorem fl11_22 : FLk RX11 22 11 2 := ⟨_, _, _, rfl, by decide, inT11, rfl, Or.inl (tb_of (tb2 102 rfl) rfl)⟩
theorem fl11_30 : FLk RX11 30 11 3 := ⟨_, _, _, rfl, by decide, inT11, rfl, Or.inl (tb_of (tb2 103 rfl) rfl)⟩
theorem fl11_35 : FLk RX11 35 11 4 := ⟨_, _, _, rfl, by decide, inT11, rfl, Or.inl (tb_of (tb2 104 rfl) rfl)⟩
theorem fl11_39 : FLk RX11 39 11 5 := ⟨_, _, _, rfl, by decide, inT11, rfl, Or.inl (tb_of (tb2 105 rfl) rfl)⟩
theorem fl11_43 : FLk RX11 43 11 6 := ⟨_, _, _, rfl, by decide, inT11, rfl, Or.inl (tb_of (tb2 106 rfl) rfl)⟩
theorem fl11_49 : FLk RX11 49 11 7 := ⟨_, _, _, rfl, by decide, inT11, rfl, Or.inl (tb_of (tb2 107 rfl) rfl)⟩
theorem fl11_53 : FLk RX11 53 11 8 := ⟨_, _, _, rfl, by decide, inT11, rfl, Or.inl (tb_of (tb2 108 rfl) rfl)⟩
theorem fl11_56 : FLk RX11 56 11 9 := ⟨_, _, _, rfl, by decide, inT11, rfl, Or.inl (tb_of (tb2 109 rfl) rfl)⟩
theorem fl5_15 : FLk RX5 15 5 0 := ⟨_, _, _, rfl, by decide, inT5, rfl, Or.inl (tb_of (tb2 149 rfl) rfl)⟩
theorem fl5_19 : FLk RX5 19 5 1 := ⟨_, _, _, rfl, by decide, inT5, rfl, Or.inl (tb_of (tb2 150 rfl) rfl)⟩
theorem fl5_9 : FLk RX5 9 5 2 := ⟨_, _, _, rfl, by decide, inT5, rfl, Or.inl (tb_of (tb2 151 rfl) rfl)⟩
theorem fl10_9 : FLk RX10 9 10 0 := ⟨_, _, _, rfl, by decide, inT10, rfl, Or.inl (tb_of (tb4 69 rfl) rfl)⟩
theorem fl10_15 : FLk RX10 15 10 1 := ⟨_, _, _, rfl, by decide, inT10, rfl, Or.inl (tb_of (tb4 70 rfl) rfl)⟩
theorem fl12_9 : FLk RX12 9 12 0 := ⟨_, _, _, rfl, by decide, inT12, rfl, Or.inl (tb_of (tb4 129 rfl) rfl)⟩
theorem fl12_13 : FLk RX12 13 12 1 := ⟨_, _, _, rfl, by decide, inT12, rfl, Or.inl (tb_of (tb4 130 rfl) rfl)⟩
theorem fl12_16 : FLk RX12 16 12 2 := ⟨_, _, _, rfl, by decide, inT12, rfl, Or.inl (tb_of (tb4 131 rfl) rfl)⟩
theorem fl12_158 : FLk RX12 158 12 3 := ⟨_, _, _, rfl, by decide, inT12, rfl, Or.inl (tb_of (tb4 132 rfl) rfl)⟩
theorem fl12_19 : FLk RX12 19 12 4 := ⟨_, _, _, rfl, by decide, inT12, rfl, Or.inl (tb_of (tb4 133 rfl) rfl)⟩
theorem fl12_22 : FLk RX12 22 12 5 := ⟨_, _, _, rfl, by decide, inT12, rfl, Or.inl (tb_of (tb4 134 rfl) rfl)⟩
theorem fl12_98 : FLk RX12 98 12 6 := ⟨_, _, _, rfl, by decide, inT12, rfl, Or.inl (tb_of (tb4 135 rfl) rfl)⟩
theorem fl12_238 : FLk RX12 238 12 7 := ⟨_, _, _, rfl, by decide, inT12, rfl, Or.inl (tb_of (tb4 136 rfl) rfl)⟩
theorem fl12_155 : FLk RX12 155 12 8 := ⟨_, _, _, rfl, by decide, inT12, rfl, Or.inl (tb_of (tb4 137 rfl) rfl)⟩
theorem fl12_25 : FLk RX12 25 12 9 := ⟨_, _, _, rfl, by decide, inT12, rfl, Or.inl (tb_of (tb4 138 rfl) rfl)⟩
theorem fl12_28 : FLk RX12 28 12 10 := ⟨_, _, _, rfl, by decide, inT12, rfl, Or.inl (tb_of (tb4 139 rfl) rfl)⟩
theorem fl12_31 : FLk RX12 31 12 11 := ⟨_, _, _, rfl, by decide, inT12, rfl, Or.inl (tb_of (tb4 140 rfl) rfl)⟩
theorem fl12_34 : FLk RX12 34 12 12 := ⟨_, _, _, rfl, by decide, inT12, rfl, Or.inl (tb_of (tb4 141 rfl) rfl)⟩
theorem fl12_37 : FLk RX12 37 12 13 := ⟨_, _, _, rfl, by decide, inT12, rfl, Or.inl (tb_of (tb4 142 rfl) rfl)⟩
theorem fl12_40 : FLk RX12 40 12 14 := ⟨_, _, _, rfl, by decide, inT12, rfl, Or.inl (tb_of (tb4 143 rfl) rfl)⟩
theorem fl12_43 : FLk RX12 43 12 15 := ⟨_, _, _, rfl, by decide, inT12, rfl, Or.inl (tb_of (tb4 144 rfl) rfl)⟩
theorem fl12_46 : FLk RX12 46 12 16 := ⟨_, _, _, rfl, by decide, inT12, rfl, Or.inl (tb_of (tb4 145 rfl) rfl)⟩
theorem fl12_49 : FLk RX12 49 12 17 := ⟨_, _, _, rfl, by decide, inT12, rfl, Or.inl (tb_of (tb4 146 rfl) rfl)⟩
theorem fl12_52 : FLk RX12 52 12 18 := ⟨_, _, _, rfl, by decide, inT12, rfl, Or.inl (tb_of (tb4 147 rfl) rfl)⟩
theorem fl12_55 : FLk RX12 55 12 19 := ⟨_, _, _, rfl, by decide, inT12, rfl, Or.inl (tb_of (tb4 148 rfl) rfl)⟩
theorem fl12_102 : FLk RX12 102 12 20 := ⟨_, _, _, rfl, by decide, inT12, rfl, Or.inl (tb_of (tb4 149 rfl) rfl)⟩
theorem fl12_128 : FLk RX12 128 12 21 := ⟨_, _, _, rfl, by decide, inT12, rfl, Or.inl (tb_of (tb4 150 rfl) rfl)⟩
theorem fl12_109 : FLk RX12 109 12 22 := ⟨_, _, _, rfl, by decide, inT12, rfl, Or.inl (tb_of (tb4 151 rfl) rfl)⟩
theorem fl12_58 : FLk RX12 58 12 23 := ⟨_, _, _, rfl, by decide, inT12, rfl, Or.inl (tb_of (tb4 152 rfl) rfl)⟩
theorem fl12_61 : FLk RX12 61 12 24 := ⟨_, _, _, rfl, by decide, inT12, rfl, Or.inl (tb_of (tb4 153 rfl) rfl)⟩
theorem fl12_64 : FLk RX12 64 12 25 := ⟨_, _, _, rfl, by decide, inT12, rfl, Or.inl (tb_of (tb4 154 rfl) rfl)⟩
theorem fl12_67 : FLk RX12 67 12 26 := ⟨_, _, _, rfl, by decide, inT12, rfl, Or.inl (tb_of (tb4 155 rfl) rfl)⟩
theorem fl12_70 : FLk RX12 70 12 27 := ⟨_, _, _, rfl, by decide, inT12, rfl, Or.inl (tb_of (tb4 156 rfl) rfl)⟩
theorem fl12_73 : FLk RX12 73 12 28 := ⟨_, _, _, rfl, by decide, inT12, rfl, Or.inl (tb_of (tb4 157 rfl) rfl)⟩
theorem fl12_76 : FLk RX12 76 12 29 := ⟨_, _, _, rfl, by decide, inT12, rfl, Or.inl (tb_of (tb4 158 rfl) rfl)⟩
theorem fl12_79 : FLk RX12 79 12 30 := ⟨_, _, _, rfl, by decide, inT12, rfl, Or.inl (tb_of (tb4 159 rfl) rfl)⟩
theorem fl12_82 : FLk RX12 82 12 31 := ⟨_, _, _, rfl, by decide, inT12, rfl, Or.inl (tb_of (tb4 160 rfl) rfl)⟩
theorem fl12_85 : FLk RX12 85 12 32 := ⟨_, _, _, rfl, by decide, inT12, rfl, Or.inl (tb_of (tb4 161 rfl) rfl)⟩
theorem fl12_88 : FLk RX12 88 12 33 := ⟨_, _, _, rfl, by decide, inT12, rfl, Or.inl (tb_of (tb4 162 rfl) rfl)⟩
theorem fl12_91 : FLk RX12 91 12 34 := ⟨_, _, _, rfl, by decide, inT12, rfl, Or.inl (tb_of (tb4 163 rfl) rfl)⟩
theorem fl12_131 : FLk RX12 131 12 35 := ⟨_, _, _, rfl, by decide, inT12, rfl, Or.inl (tb_of (tb4 164 rfl) rfl)⟩
theorem fl12_146 : FLk RX12 146 12 36 := ⟨_, _, _, rfl, by decide, inT12, rfl, Or.inl (tb_of (tb4 165 rfl) rfl)⟩
theorem fl12_228 : FLk RX12 228 12 38 := ⟨_, _, _, rfl, by decide, inT12, rfl, Or.inl (tb_of (tb4 166 rfl) rfl)⟩
theorem fw1_0 : FLw 1 0 .boolean := ⟨_, _, _, _, rfl, tyX1_ok, nmX1, rfl, by decide +kernel⟩
theorem fw1_1 : FLw 1 1 .int := ⟨_, _, _, _, rfl, tyX1_ok, nmX1, rfl, by decide +kernel⟩
theorem fw1_2 : FLw 1 2 .char := ⟨_, _, _, _, rfl, tyX1_ok, nmX1, rfl, by decide +kernel⟩
theorem fw1_3 : FLw 1 3 .int := ⟨_, _, _, _, rfl, tyX1_ok, nmX1, rfl, by decide +kernel⟩
theorem fw1_4 : FLw 1 4 (.object "BehaviorRunner$Node") := ⟨_, _, _, _, rfl, tyX1_ok, nmX1, rfl, by decide +kernel⟩
theorem fw2_0 : FLw 2 0 (.object "BehaviorRunner$Node") := ⟨_, _, _, _, rfl, tyX2_ok, nmX2, rfl, by decide +kernel⟩
theorem fw2_1 : FLw 2 1 .int := ⟨_, _, _, _, rfl, tyX2_ok, nmX2, rfl, by decide +kernel⟩
theorem fw2_2 : FLw 2 2 .int := ⟨_, _, _, _, rfl, tyX2_ok, nmX2, rfl, by decide +kernel⟩
theorem fw2_3 : FLw 2 3 .int := ⟨_, _, _, _, rfl, tyX2_ok, nmX2, rfl, by decide +kernel⟩
theorem fw2_4 : FLw 2 4 .int := ⟨_, _, _, _, rfl, tyX2_ok, nmX2, rfl, by decide +kernel⟩
theorem fw2_5 : FLw 2 5 .int := ⟨_, _, _, _, rfl, tyX2_ok, nmX2, rfl, by decide +kernel⟩
theorem fw2_6 : FLw 2 6 .int := ⟨_, _, _, _, rfl, tyX2_ok, nmX2, rfl, by decide +kernel⟩
theorem fw2_7 : FLw 2 7 .int := ⟨_, _, _, _, rfl, tyX2_ok, nmX2, rfl, by decide +kernel⟩
theorem fw2_8 : FLw 2 8 .int := ⟨_, _, _, _, rfl, tyX2_ok, nmX2, rfl, by decide +kernel⟩
theorem fw3_0 : FLw 3 0 .boolean := ⟨_, _, _, _, rfl, tyX3_ok, nmX3, rfl, by decide +kernel⟩
theorem fw3_1 : FLw 3 1 .int := ⟨_, _, _, _, rfl, tyX3_ok, nmX3, rfl, by decide +kernel⟩
theorem fw3_2 : FLw 3 2 (.object "BehaviorRunner$Node") := ⟨_, _, _, _, rfl, tyX3_ok, nmX3, rfl, by decide +kernel⟩
theorem fw3_3 : FLw 3 3 .int := ⟨_, _, _, _, rfl, tyX3_ok, nmX3, rfl, by decide +kernel⟩
theorem fw3_4 : FLw 3 4 .int := ⟨_, _, _, _, rfl, tyX3_ok, nmX3, rfl, by decide +kernel⟩
theorem fw3_5 : FLw 3 5 .int := ⟨_, _, _, _, rfl, tyX3_ok, nmX3, rfl, by decide +kernel⟩
theorem fw3_6 : FLw 3 6 .int := ⟨_, _, _, _, rfl, tyX3_ok, nmX3, rfl, by decide +kernel⟩
theorem fw3_7 : FLw 3 7 .int := ⟨_, _, _, _, rfl, tyX3_ok, nmX3, rfl, by decide +kernel⟩
theorem fw3_8 : FLw 3 8 .int := ⟨_, _, _, _, rfl, tyX3_ok, nmX3, rfl, by decide +kernel⟩
theorem fw3_9 : FLw 3 9 .int := ⟨_, _, _, _, rfl, tyX3_ok, nmX3, rfl, by decide +kernel⟩
theorem fw4_4 : FLw 4 4 .int := ⟨_, _, _, _, rfl, tyX4_ok, nmX4, rfl, by decide +kernel⟩
theorem fw4_5 : FLw 4 5 .int := ⟨_, _, _, _, rfl, tyX4_ok, nmX4, rfl, by decide +kernel⟩
theorem fw4_6 : FLw 4 6 .int := ⟨_, _, _, _, rfl, tyX4_ok, nmX4, rfl, by decide +kernel⟩
theorem fw4_7 : FLw 4 7 .int := ⟨_, _, _, _, rfl, tyX4_ok, nmX4, rfl, by decide +kernel⟩
theorem fw4_8 : FLw 4 8 (.object "BehaviorRunner$Node") := ⟨_, _, _, _, rfl, tyX4_ok, nmX4, rfl, by decide +kernel⟩
theorem fw4_9 : FLw 4 9 (.object "BehaviorRunner$Node") := ⟨_, _, _, _, rfl, tyX4_ok, nmX4, rfl, by decide +kernel⟩
theorem fw4_10 : FLw 4 10 (.object "BehaviorRunner$Node") := ⟨_, _, _, _, rfl, tyX4_ok, nmX4, rfl, by decide +kernel⟩
theorem fw4_11 : FLw 4 11 (.object "BehaviorRunner$Node") := ⟨_, _, _, _, rfl, tyX4_ok, nmX4, rfl, by decide +kernel⟩
theorem fw4_12 : FLw 4 12 (.object "BehaviorRunner$Node") := ⟨_, _, _, _, rfl, tyX4_ok, nmX4, rfl, by decide +kernel⟩
theorem fw4_13 : FLw 4 13 (.object "BehaviorRunner$Node") := ⟨_, _, _, _, rfl, tyX4_ok, nmX4, rfl, by decide +kernel⟩
theorem fw5_2 : FLw 5 2 .int := ⟨_, _, _, _, rfl, tyX5_ok, nmX5, rfl, by decide +kernel⟩
theorem fw7_1 : FLw 7 1 .int := ⟨_, _, _, _, rfl, tyX7_ok, nmX7, rfl, by decide +kernel⟩
theorem fw8_1 : FLw 8 1 .int := ⟨_, _, _, _, rfl, tyX8_ok, nmX8, rfl, by decide +kernel⟩
theorem fw11_7 : FLw 11 7 (.object "BehaviorRunner$Tree") := ⟨_, _, _, _, rfl, tyX11_ok, nmX11, rfl, by decide +kernel⟩
theorem fw11_8 : FLw 11 8 (.object "BehaviorRunner$Tree") := ⟨_, _, _, _, rfl, tyX11_ok, nmX11, rfl, by decide +kernel⟩
theorem fw11_9 : FLw 11 9 .boolean := ⟨_, _, _, _, rfl, tyX11_ok, nmX11, rfl, by decide +kernel⟩
theorem fw12_3 : FLw 12 3 .boolean := ⟨_, _, _, _, rfl, tyX12_ok, nmX12, rfl, by decide +kernel⟩
theorem fw12_6 : FLw 12 6 .int := ⟨_, _, _, _, rfl, tyX12_ok, nmX12, rfl, by decide +kernel⟩
theorem fw12_7 : FLw 12 7 .int := ⟨_, _, _, _, rfl, tyX12_ok, nmX12, rfl, by decide +kernel⟩
theorem fw12_8 : FLw 12 8 .int := ⟨_, _, _, _, rfl, tyX12_ok, nmX12, rfl, by decide +kernel⟩
theorem fw12_20 : FLw 12 20 .int := ⟨_, _, _, _, rfl, tyX12_ok, nmX12, rfl, by decide +kernel⟩
theorem fw12_21 : FLw 12 21 .int := ⟨_, _, _, _, rfl, tyX12_ok, nmX12, rfl, by decide +kernel⟩
theorem fw12_22 : FLw 12 22 .boolean := ⟨_, _, _, _, rfl, tyX12_ok, nmX12, rfl, by decide +kernel⟩
theorem fw12_35 : FLw 12 35 .int := ⟨_, _, _, _, rfl, tyX12_ok, nmX12, rfl, by decide +kernel⟩
theorem fw12_36 : FLw 12 36 .boolean := ⟨_, _, _, _, rfl, tyX12_ok, nmX12, rfl, by decide +kernel⟩
theorem fw12_37 : FLw 12 37 .int := ⟨_, _, _, _, rfl, tyX12_ok, nmX12, rfl, by decide +kernel⟩
theorem fw12_38 : FLw 12 38 .int := ⟨_, _, _, _, rfl, tyX12_ok, nmX12, rfl, by decide +kernel⟩
/-- a call's words: the link, the callee's code, and how it is chosen -/
def CLs (own : String) (idx : Nat) (y : MethodName) (b : ByteArray) (n : Nat) (ret : Option FieldType) : Prop := Cond.methodLink own idx y ∈ TBL ∧ Cond.code y b n ret ∈ TBL ∧ Cond.initialized y.cls ∈ TBL ∧ Cond.static y ∈ TBL
def CLv (own : String) (idx : Nat) (y : MethodName) (b : ByteArray) (n : Nat) (ret : Option FieldType) : Prop := Cond.methodLink own idx y ∈ TBL ∧ Cond.code y b n ret ∈ TBL ∧ Cond.initialized y.cls ∈ TBL ∧ Cond.instanceMethod y ∈ TBL ∧ Cond.selects y.cls y y ∈ TBL
theorem clL_13 : CLv RL 13 yX11_append cX11_append 4 ((Option.some FieldType.int)) := ⟨(tb_of (tb2 131 rfl) rfl), (tb_of (tb2 134 rfl) rfl), (tb_of (tb1 1 rfl) rfl), (tb_of (tb2 132 rfl) rfl), (tb_of (tb2 133 rfl) rfl)⟩
theorem clX11_64 : CLv RX11 64 yX7_add cX7_add 2 ((Option.none : Option FieldType)) := ⟨(tb_of (tb2 135 rfl) rfl), (tb_of (tb2 138 rfl) rfl), (tb_of (tb1 2 rfl) rfl), (tb_of (tb2 136 rfl) rfl), (tb_of (tb2 137 rfl) rfl)⟩
theorem clL_18 : CLv RL 18 yX11_readTree cX11_readTree 3 ((Option.some FieldType.int)) := ⟨(tb_of (tb2 139 rfl) rfl), (tb_of (tb2 142 rfl) rfl), (tb_of (tb1 1 rfl) rfl), (tb_of (tb2 140 rfl) rfl), (tb_of (tb2 141 rfl) rfl)⟩
theorem clX11_73 : CLv RX11 73 yX5_parse cX5_parse 2 ((Option.some FieldType.int)) := ⟨(tb_of (tb2 159 rfl) rfl), (tb_of (tb2 162 rfl) rfl), (tb_of (tb1 12 rfl) rfl), (tb_of (tb2 160 rfl) rfl), (tb_of (tb2 161 rfl) rfl)⟩
theorem clX5_28 : CLv RX5 28 yX5_readNode cX5_readNode 5 ((Option.some FieldType.boolean)) := ⟨(tb_of (tb2 163 rfl) rfl), (tb_of (tb2 166 rfl) rfl), (tb_of (tb1 12 rfl) rfl), (tb_of (tb2 165 rfl) rfl), (tbp (lwp1 0 rfl) rfl)⟩
theorem clX5_39 : CLv RX5 39 yX5_placeIn cX5_placeIn 3 ((Option.some FieldType.int)) := ⟨(tb_of (tb2 168 rfl) rfl), (tb_of (tb2 171 rfl) rfl), (tb_of (tb1 12 rfl) rfl), (tb_of (tb2 170 rfl) rfl), (tbp (lwp1 1 rfl) rfl)⟩
theorem clX5_89 : CLv RX5 89 yX7_codeAt cX7_codeAt 2 ((Option.some FieldType.int)) := ⟨(tb_of (tb2 172 rfl) rfl), (tb_of (tb2 175 rfl) rfl), (tb_of (tb1 2 rfl) rfl), (tb_of (tb2 173 rfl) rfl), (tb_of (tb2 174 rfl) rfl)⟩
theorem clX5_127 : CLv RX5 127 yJ0_indexOf_0f7a4 cJ0_indexOf_0f7a4 2 ((Option.some FieldType.int)) := ⟨(tb_of (tb2 176 rfl) rfl), (tb_of (tb2 179 rfl) rfl), (tb_of (tb1 13 rfl) rfl), (tb_of (tb2 177 rfl) rfl), (tb_of (tb2 178 rfl) rfl)⟩
theorem clJ0_633 : CLv RJ0 633 yJ0_indexOf_7cf53 cJ0_indexOf_7cf53 3 ((Option.some FieldType.int)) := ⟨(tb_of (tb2 180 rfl) rfl), (tb_of (tb2 183 rfl) rfl), (tb_of (tb1 13 rfl) rfl), (tb_of (tb2 181 rfl) rfl), (tb_of (tb2 182 rfl) rfl)⟩
theorem clJ0_492 : CLv RJ0 492 yJ0_isLatin1_aae02 cJ0_isLatin1_aae02 1 ((Option.some FieldType.boolean)) := ⟨(tb_of (tb2 184 rfl) rfl), (tb_of (tb2 187 rfl) rfl), (tb_of (tb1 13 rfl) rfl), (tb_of (tb2 185 rfl) rfl), (tb_of (tb2 186 rfl) rfl)⟩
theorem clJ0_505 : CLv RJ0 505 yJ0_length_8abf5 cJ0_length_8abf5 1 ((Option.some FieldType.int)) := ⟨(tb_of (tb2 190 rfl) rfl), (tb_of (tb2 193 rfl) rfl), (tb_of (tb1 13 rfl) rfl), (tb_of (tb2 191 rfl) rfl), (tb_of (tb2 192 rfl) rfl)⟩
theorem clJ0_335 : CLv RJ0 335 yJ0_coder_7d493 cJ0_coder_7d493 1 ((Option.some FieldType.byte)) := ⟨(tb_of (tb2 194 rfl) rfl), (tb_of (tb2 197 rfl) rfl), (tb_of (tb1 13 rfl) rfl), (tb_of (tb2 195 rfl) rfl), (tb_of (tb2 196 rfl) rfl)⟩
theorem clJ0_637 : CLs RJ0 637 yJ1_indexOf_4cfef cJ1_indexOf_4cfef 4 ((Option.some FieldType.int)) := ⟨(tb_of (tb2 198 rfl) rfl), (tb_of (tb2 200 rfl) rfl), (tb_of (tb1 14 rfl) rfl), (tb_of (tb2 199 rfl) rfl)⟩
theorem clJ1_88 : CLs RJ1 88 yJ1_canEncode_9a6ad cJ1_canEncode_9a6ad 1 ((Option.some FieldType.boolean)) := ⟨(tb_of (tb2 201 rfl) rfl), (tb_of (tb2 203 rfl) rfl), (tb_of (tb1 14 rfl) rfl), (tb_of (tb2 202 rfl) rfl)⟩
theorem clJ1_92 : CLs RJ1 92 yJ9_max_7cf53 cJ9_max_7cf53 2 ((Option.some FieldType.int)) := ⟨(tb_of (tb2 204 rfl) rfl), (tb_of (tb2 206 rfl) rfl), (tb_of (tb1 15 rfl) rfl), (tb_of (tb2 205 rfl) rfl)⟩
theorem clJ1_38 : CLs RJ1 38 yJ9_min_7cf53 cJ9_min_7cf53 2 ((Option.some FieldType.int)) := ⟨(tb_of (tb2 207 rfl) rfl), (tb_of (tb2 209 rfl) rfl), (tb_of (tb1 15 rfl) rfl), (tb_of (tb2 208 rfl) rfl)⟩
theorem clJ1_95 : CLs RJ1 95 yJ1_indexOfChar_4cfef cJ1_indexOfChar_4cfef 6 ((Option.some FieldType.int)) := ⟨(tb_of (tb2 210 rfl) rfl), (tb_of (tb2 212 rfl) rfl), (tb_of (tb1 14 rfl) rfl), (tb_of (tb2 211 rfl) rfl)⟩
theorem clJ0_640 : CLs RJ0 640 yJ2_indexOf_4cfef cJ2_indexOf_4cfef 4 ((Option.some FieldType.int)) := ⟨(tb_of (tb2 213 rfl) rfl), (tb_of (tb2 215 rfl) rfl), (tb_of (tb1 16 rfl) rfl), (tb_of (tb2 214 rfl) rfl)⟩
theorem clJ2_224 : CLs RJ2 224 yJ9_max_7cf53 cJ9_max_7cf53 2 ((Option.some FieldType.int)) := ⟨(tb_of (tb2 216 rfl) rfl), (tb_of (tb2 206 rfl) rfl), (tb_of (tb1 15 rfl) rfl), (tb_of (tb2 205 rfl) rfl)⟩
theorem clJ2_183 : CLs RJ2 183 yJ9_min_7cf53 cJ9_min_7cf53 2 ((Option.some FieldType.int)) := ⟨(tb_of (tb2 217 rfl) rfl), (tb_of (tb2 209 rfl) rfl), (tb_of (tb1 15 rfl) rfl), (tb_of (tb2 208 rfl) rfl)⟩
theorem clJ2_228 : CLs RJ2 228 yJ2_indexOfChar_4cfef cJ2_indexOfChar_4cfef 4 ((Option.some FieldType.int)) := ⟨(tb_of (tb2 219 rfl) rfl), (tb_of (tb2 221 rfl) rfl), (tb_of (tb1 16 rfl) rfl), (tb_of (tb2 220 rfl) rfl)⟩
theorem clJ2_96 : CLs RJ2 96 yJ2_checkBoundsBeginEnd_d044e cJ2_checkBoundsBeginEnd_d044e 3 ((Option.none : Option FieldType)) := ⟨(tb_of (tb2 222 rfl) rfl), (tb_of (tb2 224 rfl) rfl), (tb_of (tb1 16 rfl) rfl), (tb_of (tb2 223 rfl) rfl)⟩
theorem clJ2_48 : CLs RJ2 48 yJ2_length_9d52b cJ2_length_9d52b 1 ((Option.some FieldType.int)) := ⟨(tb_of (tb2 225 rfl) rfl), (tb_of (tb2 227 rfl) rfl), (tb_of (tb1 16 rfl) rfl), (tb_of (tb2 226 rfl) rfl)⟩
theorem clJ2_241 : CLs RJ2 241 yJ0_checkBoundsBeginEnd_23922 cJ0_checkBoundsBeginEnd_23922 3 ((Option.none : Option FieldType)) := ⟨(tb_of (tb2 228 rfl) rfl), (tb_of (tb2 230 rfl) rfl), (tb_of (tb1 13 rfl) rfl), (tb_of (tb2 229 rfl) rfl)⟩
theorem clJ0_1062 : CLs RJ0 1062 yJ3_checkFromToIndex_8c36e cJ3_checkFromToIndex_8c36e 4 ((Option.some FieldType.int)) := ⟨(tb_of (tb2 233 rfl) rfl), (tb_of (tb2 235 rfl) rfl), (tb_of (tb1 17 rfl) rfl), (tb_of (tb2 234 rfl) rfl)⟩
theorem clJ2_244 : CLs RJ2 244 yJ2_indexOfCharUnsafe_4cfef cJ2_indexOfCharUnsafe_4cfef 5 ((Option.some FieldType.int)) := ⟨(tb_of (tb2 236 rfl) rfl), (tb_of (tb2 238 rfl) rfl), (tb_of (tb1 16 rfl) rfl), (tb_of (tb2 237 rfl) rfl)⟩
theorem clJ2_71 : CLs RJ2 71 yJ2_getChar_3b067 cJ2_getChar_3b067 2 ((Option.some FieldType.char)) := ⟨(tb_of (tb2 239 rfl) rfl), (tb_of (tb3 1 rfl) rfl), (tb_of (tb1 16 rfl) rfl), (tb_of (tb3 0 rfl) rfl)⟩
theorem clJ2_232 : CLs RJ2 232 yJ2_indexOfSupplementary_4cfef cJ2_indexOfSupplementary_4cfef 7 ((Option.some FieldType.int)) := ⟨(tb_of (tb3 8 rfl) rfl), (tb_of (tb3 10 rfl) rfl), (tb_of (tb1 16 rfl) rfl), (tb_of (tb3 9 rfl) rfl)⟩
theorem clJ2_164 : CLs RJ2 164 yJ11_isValidCodePoint_9a6ad cJ11_isValidCodePoint_9a6ad 2 ((Option.some FieldType.boolean)) := ⟨(tb_of (tb3 11 rfl) rfl), (tb_of (tb3 13 rfl) rfl), (tb_of (tb1 18 rfl) rfl), (tb_of (tb3 12 rfl) rfl)⟩
theorem clJ2_157 : CLs RJ2 157 yJ11_highSurrogate_5068e cJ11_highSurrogate_5068e 1 ((Option.some FieldType.char)) := ⟨(tb_of (tb3 14 rfl) rfl), (tb_of (tb3 16 rfl) rfl), (tb_of (tb1 18 rfl) rfl), (tb_of (tb3 15 rfl) rfl)⟩
theorem clJ2_161 : CLs RJ2 161 yJ11_lowSurrogate_5068e cJ11_lowSurrogate_5068e 1 ((Option.some FieldType.char)) := ⟨(tb_of (tb3 18 rfl) rfl), (tb_of (tb3 20 rfl) rfl), (tb_of (tb1 18 rfl) rfl), (tb_of (tb3 19 rfl) rfl)⟩
theorem clX5_43 : CLv RX5 43 yX8_grow cX8_grow 4 ((Option.some (FieldType.object "BehaviorRunner$Node"))) := ⟨(tb_of (tb3 22 rfl) rfl), (tb_of (tb3 25 rfl) rfl), (tb_of (tb1 8 rfl) rfl), (tb_of (tb3 23 rfl) rfl), (tb_of (tb3 24 rfl) rfl)⟩
theorem clX8_24 : CLv RX8 24 yX8_nodeAt cX8_nodeAt 2 ((Option.some (FieldType.object "BehaviorRunner$Node"))) := ⟨(tb_of (tb3 26 rfl) rfl), (tb_of (tb3 29 rfl) rfl), (tb_of (tb1 8 rfl) rfl), (tb_of (tb3 27 rfl) rfl), (tb_of (tb3 28 rfl) rfl)⟩
theorem clX8_28 : CLv RX8 28 yX4_reset cX4_reset 4 ((Option.none : Option FieldType)) := ⟨(tb_of (tb3 30 rfl) rfl), (tb_of (tb3 33 rfl) rfl), (tb_of (tb1 9 rfl) rfl), (tb_of (tb3 31 rfl) rfl), (tb_of (tb3 32 rfl) rfl)⟩
theorem clX4_63 : CLv RX4 63 yX1_clear cX1_clear 1 ((Option.none : Option FieldType)) := ⟨(tb_of (tb3 34 rfl) rfl), (tb_of (tb3 37 rfl) rfl), (tb_of (tb1 10 rfl) rfl), (tb_of (tb3 35 rfl) rfl), (tb_of (tb3 36 rfl) rfl)⟩
theorem clX4_66 : CLv RX4 66 yX3_clear cX3_clear 1 ((Option.none : Option FieldType)) := ⟨(tb_of (tb3 38 rfl) rfl), (tb_of (tb3 41 rfl) rfl), (tb_of (tb1 7 rfl) rfl), (tb_of (tb3 39 rfl) rfl), (tb_of (tb3 40 rfl) rfl)⟩
theorem clX8_32 : CLv RX8 32 yX4_adopt cX4_adopt 3 ((Option.none : Option FieldType)) := ⟨(tb_of (tb3 42 rfl) rfl), (tb_of (tb3 45 rfl) rfl), (tb_of (tb1 9 rfl) rfl), (tb_of (tb3 43 rfl) rfl), (tb_of (tb3 44 rfl) rfl)⟩
theorem clX5_47 : CLv RX5 47 yX5_readRest cX5_readRest 3 ((Option.some FieldType.boolean)) := ⟨(tb_of (tb3 46 rfl) rfl), (tb_of (tb3 49 rfl) rfl), (tb_of (tb1 12 rfl) rfl), (tb_of (tb3 48 rfl) rfl), (tbp (lwp1 2 rfl) rfl)⟩
theorem clX5_55 : CLv RX5 55 yX5_readNumber cX5_readNumber 5 ((Option.some FieldType.boolean)) := ⟨(tb_of (tb3 50 rfl) rfl), (tb_of (tb3 53 rfl) rfl), (tb_of (tb1 12 rfl) rfl), (tb_of (tb3 52 rfl) rfl), (tbp (lwp1 3 rfl) rfl)⟩
theorem clX5_82 : CLv RX5 82 yX5_readDigit cX5_readDigit 4 ((Option.some FieldType.int)) := ⟨(tb_of (tb3 54 rfl) rfl), (tb_of (tb3 57 rfl) rfl), (tb_of (tb1 12 rfl) rfl), (tb_of (tb3 56 rfl) rfl), (tbp (lwp1 4 rfl) rfl)⟩
theorem clX5_59 : CLv RX5 59 yX5_readEffects cX5_readEffects 3 ((Option.some FieldType.boolean)) := ⟨(tb_of (tb3 58 rfl) rfl), (tb_of (tb3 61 rfl) rfl), (tb_of (tb1 12 rfl) rfl), (tb_of (tb3 60 rfl) rfl), (tbp (lwp1 5 rfl) rfl)⟩
theorem clX5_69 : CLv RX5 69 yX5_readClause cX5_readClause 8 ((Option.some FieldType.boolean)) := ⟨(tb_of (tb3 63 rfl) rfl), (tb_of (tb3 66 rfl) rfl), (tb_of (tb1 12 rfl) rfl), (tb_of (tb3 65 rfl) rfl), (tbp (lwp1 6 rfl) rfl)⟩
theorem clX5_96 : CLv RX5 96 yJ0_length_8abf5 cJ0_length_8abf5 1 ((Option.some FieldType.int)) := ⟨(tb_of (tb3 67 rfl) rfl), (tb_of (tb2 193 rfl) rfl), (tb_of (tb1 13 rfl) rfl), (tb_of (tb2 191 rfl) rfl), (tb_of (tb2 192 rfl) rfl)⟩
theorem clX5_110 : CLv RX5 110 yJ0_charAt_5068e cJ0_charAt_5068e 2 ((Option.some FieldType.char)) := ⟨(tb_of (tb3 68 rfl) rfl), (tb_of (tb3 71 rfl) rfl), (tb_of (tb1 13 rfl) rfl), (tb_of (tb3 69 rfl) rfl), (tb_of (tb3 70 rfl) rfl)⟩
theorem clJ0_495 : CLs RJ0 495 yJ1_charAt_3b067 cJ1_charAt_3b067 2 ((Option.some FieldType.char)) := ⟨(tb_of (tb3 72 rfl) rfl), (tb_of (tb3 74 rfl) rfl), (tb_of (tb1 14 rfl) rfl), (tb_of (tb3 73 rfl) rfl)⟩
theorem clJ1_9 : CLs RJ1 9 yJ0_checkIndex_df160 cJ0_checkIndex_df160 2 ((Option.none : Option FieldType)) := ⟨(tb_of (tb3 75 rfl) rfl), (tb_of (tb3 77 rfl) rfl), (tb_of (tb1 13 rfl) rfl), (tb_of (tb3 76 rfl) rfl)⟩
theorem clJ0_1059 : CLs RJ0 1059 yJ3_checkIndex_8e157 cJ3_checkIndex_8e157 3 ((Option.some FieldType.int)) := ⟨(tb_of (tb3 78 rfl) rfl), (tb_of (tb3 80 rfl) rfl), (tb_of (tb1 17 rfl) rfl), (tb_of (tb3 79 rfl) rfl)⟩
theorem clJ0_498 : CLs RJ0 498 yJ2_charAt_3b067 cJ2_charAt_3b067 2 ((Option.some FieldType.char)) := ⟨(tb_of (tb3 81 rfl) rfl), (tb_of (tb3 83 rfl) rfl), (tb_of (tb1 16 rfl) rfl), (tb_of (tb3 82 rfl) rfl)⟩
theorem clJ2_67 : CLs RJ2 67 yJ2_checkIndex_2214a cJ2_checkIndex_2214a 2 ((Option.none : Option FieldType)) := ⟨(tb_of (tb3 84 rfl) rfl), (tb_of (tb3 86 rfl) rfl), (tb_of (tb1 16 rfl) rfl), (tb_of (tb3 85 rfl) rfl)⟩
theorem clJ2_414 : CLs RJ2 414 yJ0_checkIndex_df160 cJ0_checkIndex_df160 2 ((Option.none : Option FieldType)) := ⟨(tb_of (tb3 87 rfl) rfl), (tb_of (tb3 77 rfl) rfl), (tb_of (tb1 13 rfl) rfl), (tb_of (tb3 76 rfl) rfl)⟩
theorem clX5_119 : CLv RX5 119 yX4_scopeOf cX4_scopeOf 3 ((Option.some (FieldType.object "BehaviorRunner$Node"))) := ⟨(tb_of (tb3 88 rfl) rfl), (tb_of (tb3 91 rfl) rfl), (tb_of (tb1 9 rfl) rfl), (tb_of (tb3 89 rfl) rfl), (tb_of (tb3 90 rfl) rfl)⟩
theorem clX5_78 : CLv RX5 78 yX5_skip cX5_skip 2 ((Option.some FieldType.boolean)) := ⟨(tb_of (tb3 92 rfl) rfl), (tb_of (tb3 95 rfl) rfl), (tb_of (tb1 12 rfl) rfl), (tb_of (tb3 94 rfl) rfl), (tbp (lwp1 7 rfl) rfl)⟩
theorem clX5_75 : CLv RX5 75 yX5_readList cX5_readList 4 ((Option.some FieldType.boolean)) := ⟨(tb_of (tb3 97 rfl) rfl), (tb_of (tb3 100 rfl) rfl), (tb_of (tb1 12 rfl) rfl), (tb_of (tb3 99 rfl) rfl), (tbp (lwp1 8 rfl) rfl)⟩
theorem clX11_77 : CLv RX11 77 yX7_clear cX7_clear 1 ((Option.none : Option FieldType)) := ⟨(tb_of (tb3 101 rfl) rfl), (tb_of (tb3 104 rfl) rfl), (tb_of (tb1 2 rfl) rfl), (tb_of (tb3 102 rfl) rfl), (tb_of (tb3 103 rfl) rfl)⟩
theorem clX11_80 : CLv RX11 80 yX2_clear cX2_clear 1 ((Option.none : Option FieldType)) := ⟨(tb_of (tb3 105 rfl) rfl), (tb_of (tb3 108 rfl) rfl), (tb_of (tb1 5 rfl) rfl), (tb_of (tb3 106 rfl) rfl), (tb_of (tb3 107 rfl) rfl)⟩
theorem clL_23 : CLv RL 23 yX11_set cX11_set 4 ((Option.some FieldType.int)) := ⟨(tb_of (tb3 110 rfl) rfl), (tb_of (tb3 113 rfl) rfl), (tb_of (tb1 1 rfl) rfl), (tb_of (tb3 111 rfl) rfl), (tb_of (tb3 112 rfl) rfl)⟩
theorem clX11_83 : CLv RX11 83 yX0_valueIn cX0_valueIn 3 ((Option.some FieldType.int)) := ⟨(tb_of (tb3 114 rfl) rfl), (tb_of (tb3 117 rfl) rfl), (tb_of (tb1 4 rfl) rfl), (tb_of (tb3 115 rfl) rfl), (tb_of (tb3 116 rfl) rfl)⟩
theorem clX11_89 : CLv RX11 89 yX0_put cX0_put 4 ((Option.none : Option FieldType)) := ⟨(tb_of (tb3 118 rfl) rfl), (tb_of (tb3 121 rfl) rfl), (tb_of (tb1 4 rfl) rfl), (tb_of (tb3 119 rfl) rfl), (tb_of (tb3 120 rfl) rfl)⟩
theorem clL_27 : CLv RL 27 yX11_value cX11_value 4 ((Option.some FieldType.int)) := ⟨(tb_of (tb3 122 rfl) rfl), (tb_of (tb3 125 rfl) rfl), (tb_of (tb1 1 rfl) rfl), (tb_of (tb3 123 rfl) rfl), (tb_of (tb3 124 rfl) rfl)⟩
theorem clX11_93 : CLv RX11 93 yX8_nodeAt cX8_nodeAt 2 ((Option.some (FieldType.object "BehaviorRunner$Node"))) := ⟨(tb_of (tb3 126 rfl) rfl), (tb_of (tb3 29 rfl) rfl), (tb_of (tb1 8 rfl) rfl), (tb_of (tb3 27 rfl) rfl), (tb_of (tb3 28 rfl) rfl)⟩
theorem clX11_97 : CLv RX11 97 yX4_scopeOf cX4_scopeOf 3 ((Option.some (FieldType.object "BehaviorRunner$Node"))) := ⟨(tb_of (tb3 127 rfl) rfl), (tb_of (tb3 91 rfl) rfl), (tb_of (tb1 9 rfl) rfl), (tb_of (tb3 89 rfl) rfl), (tb_of (tb3 90 rfl) rfl)⟩
theorem clL_31 : CLv RL 31 yX11_tick cX11_tick 3 ((Option.some FieldType.int)) := ⟨(tb_of (tb3 128 rfl) rfl), (tb_of (tb3 131 rfl) rfl), (tb_of (tb1 1 rfl) rfl), (tb_of (tb3 129 rfl) rfl), (tb_of (tb3 130 rfl) rfl)⟩
theorem clX11_102 : CLv RX11 102 yX9_perform cX9_perform 7 ((Option.some FieldType.int)) := ⟨(tb_of (tb3 132 rfl) rfl), (tb_of (tb3 135 rfl) rfl), (tb_of (tb1 3 rfl) rfl), (tb_of (tb3 133 rfl) rfl), (tb_of (tb3 134 rfl) rfl)⟩
theorem clX9_29 : CLv RX9 29 yX9_beginVisit cX9_beginVisit 3 ((Option.some FieldType.int)) := ⟨(tb_of (tb3 136 rfl) rfl), (tb_of (tb3 139 rfl) rfl), (tb_of (tb1 3 rfl) rfl), (tb_of (tb3 138 rfl) rfl), (tbp (lwp1 9 rfl) rfl)⟩
theorem clX9_109 : CLv RX9 109 yX9_beginRun cX9_beginRun 4 ((Option.none : Option FieldType)) := ⟨(tb_of (tb3 140 rfl) rfl), (tb_of (tb3 143 rfl) rfl), (tb_of (tb1 3 rfl) rfl), (tb_of (tb3 142 rfl) rfl), (tbp (lwp1 10 rfl) rfl)⟩
theorem clX9_116 : CLv RX9 116 yX9_act cX9_act 3 ((Option.some FieldType.int)) := ⟨(tb_of (tb3 144 rfl) rfl), (tb_of (tb3 147 rfl) rfl), (tb_of (tb1 3 rfl) rfl), (tb_of (tb3 146 rfl) rfl), (tbp (lwp1 11 rfl) rfl)⟩
theorem clX9_98 : CLv RX9 98 yX0_change cX0_change 3 ((Option.none : Option FieldType)) := ⟨(tb_of (tb3 148 rfl) rfl), (tb_of (tb3 151 rfl) rfl), (tb_of (tb1 4 rfl) rfl), (tb_of (tb3 149 rfl) rfl), (tb_of (tb3 150 rfl) rfl)⟩
theorem clX0_42 : CLv RX0 42 yX0_valueIn cX0_valueIn 3 ((Option.some FieldType.int)) := ⟨(tb_of (tb3 152 rfl) rfl), (tb_of (tb3 117 rfl) rfl), (tb_of (tb1 4 rfl) rfl), (tb_of (tb3 115 rfl) rfl), (tb_of (tb3 116 rfl) rfl)⟩
theorem clX0_53 : CLs RX0 53 yJ9_min_7cf53 cJ9_min_7cf53 2 ((Option.some FieldType.int)) := ⟨(tb_of (tb3 153 rfl) rfl), (tb_of (tb2 209 rfl) rfl), (tb_of (tb1 15 rfl) rfl), (tb_of (tb2 208 rfl) rfl)⟩
theorem clX0_59 : CLs RX0 59 yJ9_max_7cf53 cJ9_max_7cf53 2 ((Option.some FieldType.int)) := ⟨(tb_of (tb3 154 rfl) rfl), (tb_of (tb2 206 rfl) rfl), (tb_of (tb1 15 rfl) rfl), (tb_of (tb2 205 rfl) rfl)⟩
theorem clX0_62 : CLv RX0 62 yX0_put cX0_put 4 ((Option.none : Option FieldType)) := ⟨(tb_of (tb3 155 rfl) rfl), (tb_of (tb3 121 rfl) rfl), (tb_of (tb1 4 rfl) rfl), (tb_of (tb3 119 rfl) rfl), (tb_of (tb3 120 rfl) rfl)⟩
theorem clX9_123 : CLv RX9 123 yX0_fulfils cX0_fulfils 3 ((Option.some FieldType.boolean)) := ⟨(tb_of (tb3 156 rfl) rfl), (tb_of (tb3 159 rfl) rfl), (tb_of (tb1 4 rfl) rfl), (tb_of (tb3 157 rfl) rfl), (tb_of (tb3 158 rfl) rfl)⟩
theorem clX9_130 : CLv RX9 130 yX9_goDown cX9_goDown 2 ((Option.some FieldType.int)) := ⟨(tb_of (tb3 160 rfl) rfl), (tb_of (tb3 163 rfl) rfl), (tb_of (tb1 3 rfl) rfl), (tb_of (tb3 162 rfl) rfl), (tbp (lwp1 12 rfl) rfl)⟩
theorem clX9_136 : CLv RX9 136 yX9_goOnInParallel cX9_goOnInParallel 6 ((Option.some FieldType.int)) := ⟨(tb_of (tb3 164 rfl) rfl), (tb_of (tb3 167 rfl) rfl), (tb_of (tb1 3 rfl) rfl), (tb_of (tb3 166 rfl) rfl), (tbp (lwp1 13 rfl) rfl)⟩
theorem clX9_162 : CLv RX9 162 yX9_stopBack cX9_stopBack 4 ((Option.none : Option FieldType)) := ⟨(tb_of (tb3 168 rfl) rfl), (tb_of (tb3 171 rfl) rfl), (tb_of (tb1 3 rfl) rfl), (tb_of (tb3 169 rfl) rfl), (tb_of (tb3 170 rfl) rfl)⟩
theorem clX9_70 : CLv RX9 70 yX9_endRun cX9_endRun 4 ((Option.none : Option FieldType)) := ⟨(tb_of (tb3 172 rfl) rfl), (tb_of (tb3 175 rfl) rfl), (tb_of (tb1 3 rfl) rfl), (tb_of (tb3 174 rfl) rfl), (tbp (lwp1 14 rfl) rfl)⟩
theorem clX9_86 : CLv RX9 86 yX2_enter cX2_enter 4 ((Option.none : Option FieldType)) := ⟨(tb_of (tb3 176 rfl) rfl), (tb_of (tb3 179 rfl) rfl), (tb_of (tb1 5 rfl) rfl), (tb_of (tb3 177 rfl) rfl), (tb_of (tb3 178 rfl) rfl)⟩
theorem clX2_53 : CLs RX2 53 yJ9_floorMod_7cf53 cJ9_floorMod_7cf53 3 ((Option.some FieldType.int)) := ⟨(tb_of (tb3 180 rfl) rfl), (tb_of (tb3 182 rfl) rfl), (tb_of (tb1 15 rfl) rfl), (tb_of (tb3 181 rfl) rfl)⟩
theorem clX9_140 : CLv RX9 140 yX9_goDownIf cX9_goDownIf 3 ((Option.some FieldType.int)) := ⟨(tb_of (tb3 183 rfl) rfl), (tb_of (tb3 186 rfl) rfl), (tb_of (tb1 3 rfl) rfl), (tb_of (tb3 185 rfl) rfl), (tbp (lwp1 15 rfl) rfl)⟩
theorem clX9_33 : CLv RX9 33 yX9_endVisit cX9_endVisit 3 ((Option.none : Option FieldType)) := ⟨(tb_of (tb3 187 rfl) rfl), (tb_of (tb3 190 rfl) rfl), (tb_of (tb1 3 rfl) rfl), (tb_of (tb3 189 rfl) rfl), (tbp (lwp2 0 rfl) rfl)⟩
theorem clX9_42 : CLv RX9 42 yX9_goOn cX9_goOn 4 ((Option.some FieldType.int)) := ⟨(tb_of (tb3 191 rfl) rfl), (tb_of (tb3 194 rfl) rfl), (tb_of (tb1 3 rfl) rfl), (tb_of (tb3 193 rfl) rfl), (tbp (lwp2 1 rfl) rfl)⟩
theorem clX9_166 : CLv RX9 166 yX9_goOnInList cX9_goOnInList 6 ((Option.some FieldType.int)) := ⟨(tb_of (tb3 195 rfl) rfl), (tb_of (tb3 198 rfl) rfl), (tb_of (tb1 3 rfl) rfl), (tb_of (tb3 197 rfl) rfl), (tbp (lwp2 2 rfl) rfl)⟩
theorem clX9_174 : CLv RX9 174 yX4_isReactive cX4_isReactive 1 ((Option.some FieldType.boolean)) := ⟨(tb_of (tb3 199 rfl) rfl), (tb_of (tb3 202 rfl) rfl), (tb_of (tb1 9 rfl) rfl), (tb_of (tb3 200 rfl) rfl), (tb_of (tb3 201 rfl) rfl)⟩
theorem clX9_170 : CLv RX9 170 yX9_countResult cX9_countResult 4 ((Option.some FieldType.int)) := ⟨(tb_of (tb3 203 rfl) rfl), (tb_of (tb3 206 rfl) rfl), (tb_of (tb1 3 rfl) rfl), (tb_of (tb3 205 rfl) rfl), (tbp (lwp2 3 rfl) rfl)⟩
theorem clX9_46 : CLv RX9 46 yX2_endTick cX2_endTick 2 ((Option.none : Option FieldType)) := ⟨(tb_of (tb3 207 rfl) rfl), (tb_of (tb3 210 rfl) rfl), (tb_of (tb1 5 rfl) rfl), (tb_of (tb3 208 rfl) rfl), (tb_of (tb3 209 rfl) rfl)⟩
theorem clL_36 : CLv RL 36 yX11_run cX11_run 5 ((Option.some FieldType.int)) := ⟨(tb_of (tb3 211 rfl) rfl), (tb_of (tb3 214 rfl) rfl), (tb_of (tb1 1 rfl) rfl), (tb_of (tb3 212 rfl) rfl), (tb_of (tb3 213 rfl) rfl)⟩
theorem clL_40 : CLv RL 40 yX11_foresee cX11_foresee 3 ((Option.some FieldType.int)) := ⟨(tb_of (tb3 216 rfl) rfl), (tb_of (tb3 219 rfl) rfl), (tb_of (tb1 1 rfl) rfl), (tb_of (tb3 217 rfl) rfl), (tb_of (tb3 218 rfl) rfl)⟩
theorem clX11_106 : CLv RX11 106 yX6_take cX6_take 6 ((Option.none : Option FieldType)) := ⟨(tb_of (tb3 220 rfl) rfl), (tb_of (tb3 223 rfl) rfl), (tb_of (tb1 6 rfl) rfl), (tb_of (tb3 221 rfl) rfl), (tb_of (tb3 222 rfl) rfl)⟩
theorem clX6_32 : CLv RX6 32 yX8_nodeAt cX8_nodeAt 2 ((Option.some (FieldType.object "BehaviorRunner$Node"))) := ⟨(tb_of (tb3 224 rfl) rfl), (tb_of (tb3 29 rfl) rfl), (tb_of (tb1 8 rfl) rfl), (tb_of (tb3 27 rfl) rfl), (tb_of (tb3 28 rfl) rfl)⟩
theorem clX6_44 : CLv RX6 44 yX3_copyFrom cX3_copyFrom 2 ((Option.none : Option FieldType)) := ⟨(tb_of (tb3 225 rfl) rfl), (tb_of (tb3 228 rfl) rfl), (tb_of (tb1 7 rfl) rfl), (tb_of (tb3 226 rfl) rfl), (tb_of (tb3 227 rfl) rfl)⟩
theorem clX6_48 : CLv RX6 48 yX0_copyFrom cX0_copyFrom 2 ((Option.none : Option FieldType)) := ⟨(tb_of (tb3 229 rfl) rfl), (tb_of (tb3 232 rfl) rfl), (tb_of (tb1 4 rfl) rfl), (tb_of (tb3 230 rfl) rfl), (tb_of (tb3 231 rfl) rfl)⟩
theorem clX6_51 : CLv RX6 51 yX2_copyFrom cX2_copyFrom 2 ((Option.none : Option FieldType)) := ⟨(tb_of (tb3 236 rfl) rfl), (tb_of (tb3 239 rfl) rfl), (tb_of (tb1 5 rfl) rfl), (tb_of (tb3 237 rfl) rfl), (tb_of (tb3 238 rfl) rfl)⟩
theorem clX11_110 : CLv RX11 110 yX6_giveBack cX6_giveBack 6 ((Option.none : Option FieldType)) := ⟨(tb_of (tb4 1 rfl) rfl), (tb_of (tb4 4 rfl) rfl), (tb_of (tb1 6 rfl) rfl), (tb_of (tb4 2 rfl) rfl), (tb_of (tb4 3 rfl) rfl)⟩
theorem clL_44 : CLv RL 44 yX11_ticksToGo cX11_ticksToGo 4 ((Option.some FieldType.int)) := ⟨(tb_of (tb4 5 rfl) rfl), (tb_of (tb4 8 rfl) rfl), (tb_of (tb1 1 rfl) rfl), (tb_of (tb4 6 rfl) rfl), (tb_of (tb4 7 rfl) rfl)⟩
theorem clL_48 : CLv RL 48 yX11_abort cX11_abort 3 ((Option.some FieldType.int)) := ⟨(tb_of (tb4 9 rfl) rfl), (tb_of (tb4 12 rfl) rfl), (tb_of (tb1 1 rfl) rfl), (tb_of (tb4 10 rfl) rfl), (tb_of (tb4 11 rfl) rfl)⟩
theorem clX11_116 : CLv RX11 116 yX9_stopBack cX9_stopBack 4 ((Option.none : Option FieldType)) := ⟨(tb_of (tb4 13 rfl) rfl), (tb_of (tb3 171 rfl) rfl), (tb_of (tb1 3 rfl) rfl), (tb_of (tb3 169 rfl) rfl), (tb_of (tb3 170 rfl) rfl)⟩
theorem clL_52 : CLv RL 52 yX11_node cX11_node 5 ((Option.some FieldType.int)) := ⟨(tb_of (tb4 14 rfl) rfl), (tb_of (tb4 17 rfl) rfl), (tb_of (tb1 1 rfl) rfl), (tb_of (tb4 15 rfl) rfl), (tb_of (tb4 16 rfl) rfl)⟩
theorem clL_56 : CLv RL 56 yX11_child cX11_child 6 ((Option.some FieldType.int)) := ⟨(tb_of (tb4 18 rfl) rfl), (tb_of (tb4 21 rfl) rfl), (tb_of (tb1 1 rfl) rfl), (tb_of (tb4 19 rfl) rfl), (tb_of (tb4 20 rfl) rfl)⟩
theorem clL_60 : CLv RL 60 yX11_underWay cX11_underWay 3 ((Option.some FieldType.int)) := ⟨(tb_of (tb4 22 rfl) rfl), (tb_of (tb4 25 rfl) rfl), (tb_of (tb1 1 rfl) rfl), (tb_of (tb4 23 rfl) rfl), (tb_of (tb4 24 rfl) rfl)⟩
theorem clL_64 : CLv RL 64 yX11_pending cX11_pending 1 ((Option.some FieldType.int)) := ⟨(tb_of (tb4 26 rfl) rfl), (tb_of (tb4 29 rfl) rfl), (tb_of (tb1 1 rfl) rfl), (tb_of (tb4 27 rfl) rfl), (tb_of (tb4 28 rfl) rfl)⟩
theorem clL_68 : CLv RL 68 yX11_trace cX11_trace 3 ((Option.some FieldType.int)) := ⟨(tb_of (tb4 30 rfl) rfl), (tb_of (tb4 33 rfl) rfl), (tb_of (tb1 1 rfl) rfl), (tb_of (tb4 31 rfl) rfl), (tb_of (tb4 32 rfl) rfl)⟩
theorem clX11_173 : CLv RX11 173 yX2_entries cX2_entries 1 ((Option.some FieldType.int)) := ⟨(tb_of (tb4 34 rfl) rfl), (tb_of (tb4 37 rfl) rfl), (tb_of (tb1 5 rfl) rfl), (tb_of (tb4 35 rfl) rfl), (tb_of (tb4 36 rfl) rfl)⟩
theorem clX2_64 : CLs RX2 64 yJ9_min_7cf53 cJ9_min_7cf53 2 ((Option.some FieldType.int)) := ⟨(tb_of (tb4 38 rfl) rfl), (tb_of (tb2 209 rfl) rfl), (tb_of (tb1 15 rfl) rfl), (tb_of (tb2 208 rfl) rfl)⟩
theorem clX11_176 : CLv RX11 176 yX2_tracedNode cX2_tracedNode 2 ((Option.some FieldType.int)) := ⟨(tb_of (tb4 39 rfl) rfl), (tb_of (tb4 42 rfl) rfl), (tb_of (tb1 5 rfl) rfl), (tb_of (tb4 40 rfl) rfl), (tb_of (tb4 41 rfl) rfl)⟩
theorem clX2_67 : CLv RX2 67 yX2_placeOf cX2_placeOf 2 ((Option.some FieldType.int)) := ⟨(tb_of (tb4 43 rfl) rfl), (tb_of (tb4 46 rfl) rfl), (tb_of (tb1 5 rfl) rfl), (tb_of (tb4 45 rfl) rfl), (tbp (lwp2 4 rfl) rfl)⟩
theorem clX11_180 : CLv RX11 180 yX2_tracedResult cX2_tracedResult 2 ((Option.some FieldType.int)) := ⟨(tb_of (tb4 47 rfl) rfl), (tb_of (tb4 50 rfl) rfl), (tb_of (tb1 5 rfl) rfl), (tb_of (tb4 48 rfl) rfl), (tb_of (tb4 49 rfl) rfl)⟩
theorem clL_72 : CLv RL 72 yX11_count cX11_count 2 ((Option.some FieldType.int)) := ⟨(tb_of (tb4 51 rfl) rfl), (tb_of (tb4 54 rfl) rfl), (tb_of (tb1 1 rfl) rfl), (tb_of (tb4 52 rfl) rfl), (tb_of (tb4 53 rfl) rfl)⟩
theorem clX11_195 : CLv RX11 195 yX8_runningNodes cX8_runningNodes 3 ((Option.some FieldType.int)) := ⟨(tb_of (tb4 55 rfl) rfl), (tb_of (tb4 58 rfl) rfl), (tb_of (tb1 8 rfl) rfl), (tb_of (tb4 56 rfl) rfl), (tb_of (tb4 57 rfl) rfl)⟩
theorem clL_76 : CLv RL 76 yX11_write cX11_write 1 ((Option.some FieldType.int)) := ⟨(tb_of (tb4 59 rfl) rfl), (tb_of (tb4 62 rfl) rfl), (tb_of (tb1 1 rfl) rfl), (tb_of (tb4 60 rfl) rfl), (tb_of (tb4 61 rfl) rfl)⟩
theorem clX11_206 : CLv RX11 206 yX10_writeTree cX10_writeTree 3 ((Option.none : Option FieldType)) := ⟨(tb_of (tb4 76 rfl) rfl), (tb_of (tb4 79 rfl) rfl), (tb_of (tb1 20 rfl) rfl), (tb_of (tb4 77 rfl) rfl), (tb_of (tb4 78 rfl) rfl)⟩
theorem clX10_19 : CLv RX10 19 yX7_clear cX7_clear 1 ((Option.none : Option FieldType)) := ⟨(tb_of (tb4 80 rfl) rfl), (tb_of (tb3 104 rfl) rfl), (tb_of (tb1 2 rfl) rfl), (tb_of (tb3 102 rfl) rfl), (tb_of (tb3 103 rfl) rfl)⟩
theorem clX10_24 : CLv RX10 24 yX8_nodeAt cX8_nodeAt 2 ((Option.some (FieldType.object "BehaviorRunner$Node"))) := ⟨(tb_of (tb4 81 rfl) rfl), (tb_of (tb3 29 rfl) rfl), (tb_of (tb1 8 rfl) rfl), (tb_of (tb3 27 rfl) rfl), (tb_of (tb3 28 rfl) rfl)⟩
theorem clX10_30 : CLv RX10 30 yX10_writeHead cX10_writeHead 2 ((Option.none : Option FieldType)) := ⟨(tb_of (tb4 82 rfl) rfl), (tb_of (tb4 85 rfl) rfl), (tb_of (tb1 20 rfl) rfl), (tb_of (tb4 84 rfl) rfl), (tbp (lwp2 5 rfl) rfl)⟩
theorem clX10_45 : CLv RX10 45 yJ0_length_8abf5 cJ0_length_8abf5 1 ((Option.some FieldType.int)) := ⟨(tb_of (tb4 87 rfl) rfl), (tb_of (tb2 193 rfl) rfl), (tb_of (tb1 13 rfl) rfl), (tb_of (tb2 191 rfl) rfl), (tb_of (tb2 192 rfl) rfl)⟩
theorem clX10_51 : CLv RX10 51 yJ0_charAt_5068e cJ0_charAt_5068e 2 ((Option.some FieldType.char)) := ⟨(tb_of (tb4 88 rfl) rfl), (tb_of (tb3 71 rfl) rfl), (tb_of (tb1 13 rfl) rfl), (tb_of (tb3 69 rfl) rfl), (tb_of (tb3 70 rfl) rfl)⟩
theorem clX10_55 : CLv RX10 55 yX7_add cX7_add 2 ((Option.none : Option FieldType)) := ⟨(tb_of (tb4 89 rfl) rfl), (tb_of (tb2 138 rfl) rfl), (tb_of (tb1 2 rfl) rfl), (tb_of (tb2 136 rfl) rfl), (tb_of (tb2 137 rfl) rfl)⟩
theorem clX10_59 : CLv RX10 59 yX10_hasNumber cX10_hasNumber 2 ((Option.some FieldType.boolean)) := ⟨(tb_of (tb4 90 rfl) rfl), (tb_of (tb4 93 rfl) rfl), (tb_of (tb1 20 rfl) rfl), (tb_of (tb4 92 rfl) rfl), (tbp (lwp2 6 rfl) rfl)⟩
theorem clX10_66 : CLv RX10 66 yX10_writeNumber cX10_writeNumber 2 ((Option.none : Option FieldType)) := ⟨(tb_of (tb4 94 rfl) rfl), (tb_of (tb4 97 rfl) rfl), (tb_of (tb1 20 rfl) rfl), (tb_of (tb4 96 rfl) rfl), (tbp (lwp2 7 rfl) rfl)⟩
theorem clX10_80 : CLv RX10 80 yX10_writeClause cX10_writeClause 2 ((Option.none : Option FieldType)) := ⟨(tb_of (tb4 98 rfl) rfl), (tb_of (tb4 101 rfl) rfl), (tb_of (tb1 20 rfl) rfl), (tb_of (tb4 100 rfl) rfl), (tbp (lwp2 8 rfl) rfl)⟩
theorem clX10_87 : CLv RX10 87 yX4_hasList cX4_hasList 1 ((Option.some FieldType.boolean)) := ⟨(tb_of (tb4 102 rfl) rfl), (tb_of (tb4 105 rfl) rfl), (tb_of (tb1 9 rfl) rfl), (tb_of (tb4 103 rfl) rfl), (tb_of (tb4 104 rfl) rfl)⟩
theorem clX10_34 : CLv RX10 34 yX10_writeBehind cX10_writeBehind 3 ((Option.none : Option FieldType)) := ⟨(tb_of (tb4 106 rfl) rfl), (tb_of (tb4 109 rfl) rfl), (tb_of (tb1 20 rfl) rfl), (tb_of (tb4 108 rfl) rfl), (tbp (lwp2 9 rfl) rfl)⟩
theorem clL_80 : CLv RL 80 yX11_written cX11_written 3 ((Option.some FieldType.int)) := ⟨(tb_of (tb4 110 rfl) rfl), (tb_of (tb4 113 rfl) rfl), (tb_of (tb1 1 rfl) rfl), (tb_of (tb4 111 rfl) rfl), (tb_of (tb4 112 rfl) rfl)⟩
theorem clX11_209 : CLv RX11 209 yX7_codeAt cX7_codeAt 2 ((Option.some FieldType.int)) := ⟨(tb_of (tb4 114 rfl) rfl), (tb_of (tb2 175 rfl) rfl), (tb_of (tb1 2 rfl) rfl), (tb_of (tb2 173 rfl) rfl), (tb_of (tb2 174 rfl) rfl)⟩
theorem clL_84 : CLv RL 84 yX11_save cX11_save 1 ((Option.some FieldType.int)) := ⟨(tb_of (tb4 115 rfl) rfl), (tb_of (tb4 118 rfl) rfl), (tb_of (tb1 1 rfl) rfl), (tb_of (tb4 116 rfl) rfl), (tb_of (tb4 117 rfl) rfl)⟩
theorem clL_88 : CLv RL 88 yX11_restore cX11_restore 1 ((Option.some FieldType.int)) := ⟨(tb_of (tb4 119 rfl) rfl), (tb_of (tb4 122 rfl) rfl), (tb_of (tb1 1 rfl) rfl), (tb_of (tb4 120 rfl) rfl), (tb_of (tb4 121 rfl) rfl)⟩
theorem clL_17 : CLv RL 17 yX12_append cX12_append 4 ((Option.some FieldType.int)) := ⟨(tb_of (tb5 6 rfl) rfl), (tb_of (tb5 9 rfl) rfl), (tb_of (tb1 11 rfl) rfl), (tb_of (tb5 7 rfl) rfl), (tb_of (tb5 8 rfl) rfl)⟩
theorem clX12_94 : CLs RX12 94 yX12_isIn cX12_isIn 3 ((Option.some FieldType.boolean)) := ⟨(tb_of (tb5 10 rfl) rfl), (tb_of (tb5 12 rfl) rfl), (tb_of (tb1 11 rfl) rfl), (tb_of (tb5 11 rfl) rfl)⟩
theorem clL_22 : CLv RL 22 yX12_readTree cX12_readTree 2 ((Option.some FieldType.int)) := ⟨(tb_of (tb5 13 rfl) rfl), (tb_of (tb5 16 rfl) rfl), (tb_of (tb1 11 rfl) rfl), (tb_of (tb5 14 rfl) rfl), (tb_of (tb5 15 rfl) rfl)⟩
theorem clX12_149 : CLv RX12 149 yX12_begins cX12_begins 3 ((Option.none : Option FieldType)) := ⟨(tb_of (tb5 17 rfl) rfl), (tb_of (tb5 20 rfl) rfl), (tb_of (tb1 11 rfl) rfl), (tb_of (tb5 19 rfl) rfl), (tbp (lwp2 10 rfl) rfl)⟩
theorem clX12_105 : CLv RX12 105 yX12_here cX12_here 1 ((Option.some FieldType.int)) := ⟨(tb_of (tb5 21 rfl) rfl), (tb_of (tb5 24 rfl) rfl), (tb_of (tb1 11 rfl) rfl), (tb_of (tb5 23 rfl) rfl), (tbp (lwp2 11 rfl) rfl)⟩
theorem clX12_124 : CLs RX12 124 yX12_kindOf cX12_kindOf 1 ((Option.some FieldType.int)) := ⟨(tb_of (tb5 25 rfl) rfl), (tb_of (tb5 27 rfl) rfl), (tb_of (tb1 11 rfl) rfl), (tb_of (tb5 26 rfl) rfl)⟩
theorem clX12_113 : CLv RX12 113 yX12_digit cX12_digit 4 ((Option.some FieldType.int)) := ⟨(tb_of (tb5 28 rfl) rfl), (tb_of (tb5 31 rfl) rfl), (tb_of (tb1 11 rfl) rfl), (tb_of (tb5 30 rfl) rfl), (tbp (lwp2 12 rfl) rfl)⟩
theorem clX12_134 : CLv RX12 134 yX12_deed cX12_deed 3 ((Option.none : Option FieldType)) := ⟨(tb_of (tb5 32 rfl) rfl), (tb_of (tb5 35 rfl) rfl), (tb_of (tb1 11 rfl) rfl), (tb_of (tb5 34 rfl) rfl), (tbp (lwp2 13 rfl) rfl)⟩
theorem clX12_117 : CLv RX12 117 yX12_sign cX12_sign 4 ((Option.some FieldType.int)) := ⟨(tb_of (tb5 36 rfl) rfl), (tb_of (tb5 39 rfl) rfl), (tb_of (tb1 11 rfl) rfl), (tb_of (tb5 38 rfl) rfl), (tbp (lwp2 14 rfl) rfl)⟩
theorem clX12_121 : CLv RX12 121 yX12_worth cX12_worth 2 ((Option.some FieldType.int)) := ⟨(tb_of (tb5 40 rfl) rfl), (tb_of (tb5 43 rfl) rfl), (tb_of (tb1 11 rfl) rfl), (tb_of (tb5 42 rfl) rfl), (tbp (lwp2 15 rfl) rfl)⟩
theorem clX12_138 : CLv RX12 138 yX12_end cX12_end 2 ((Option.none : Option FieldType)) := ⟨(tb_of (tb5 44 rfl) rfl), (tb_of (tb5 47 rfl) rfl), (tb_of (tb1 11 rfl) rfl), (tb_of (tb5 46 rfl) rfl), (tbp (lwp3 0 rfl) rfl)⟩
theorem clX12_142 : CLs RX12 142 yX12_isList cX12_isList 1 ((Option.some FieldType.boolean)) := ⟨(tb_of (tb5 48 rfl) rfl), (tb_of (tb5 50 rfl) rfl), (tb_of (tb1 11 rfl) rfl), (tb_of (tb5 49 rfl) rfl)⟩
theorem clX12_152 : CLv RX12 152 yX12_goesUp cX12_goesUp 3 ((Option.none : Option FieldType)) := ⟨(tb_of (tb5 51 rfl) rfl), (tb_of (tb5 54 rfl) rfl), (tb_of (tb1 11 rfl) rfl), (tb_of (tb5 53 rfl) rfl), (tbp (lwp3 1 rfl) rfl)⟩
theorem clL_26 : CLv RL 26 yX12_set cX12_set 4 ((Option.some FieldType.int)) := ⟨(tb_of (tb5 55 rfl) rfl), (tb_of (tb5 58 rfl) rfl), (tb_of (tb1 11 rfl) rfl), (tb_of (tb5 56 rfl) rfl), (tb_of (tb5 57 rfl) rfl)⟩
theorem clL_30 : CLv RL 30 yX12_value cX12_value 3 ((Option.some FieldType.int)) := ⟨(tb_of (tb5 59 rfl) rfl), (tb_of (tb5 62 rfl) rfl), (tb_of (tb1 11 rfl) rfl), (tb_of (tb5 60 rfl) rfl), (tb_of (tb5 61 rfl) rfl)⟩
theorem clX12_161 : CLv RX12 161 yX12_place cX12_place 4 ((Option.some FieldType.int)) := ⟨(tb_of (tb5 63 rfl) rfl), (tb_of (tb5 66 rfl) rfl), (tb_of (tb1 11 rfl) rfl), (tb_of (tb5 65 rfl) rfl), (tbp (lwp3 2 rfl) rfl)⟩
theorem clL_35 : CLv RL 35 yX12_tick cX12_tick 2 ((Option.some FieldType.int)) := ⟨(tb_of (tb5 67 rfl) rfl), (tb_of (tb5 70 rfl) rfl), (tb_of (tb1 11 rfl) rfl), (tb_of (tb5 68 rfl) rfl), (tb_of (tb5 69 rfl) rfl)⟩
theorem clX12_225 : CLv RX12 225 yX12_goes cX12_goes 5 ((Option.some FieldType.int)) := ⟨(tb_of (tb5 71 rfl) rfl), (tb_of (tb5 74 rfl) rfl), (tb_of (tb1 11 rfl) rfl), (tb_of (tb5 73 rfl) rfl), (tbp (lwp3 3 rfl) rfl)⟩
theorem clX12_213 : CLv RX12 213 yX12_enters cX12_enters 3 ((Option.some FieldType.int)) := ⟨(tb_of (tb5 75 rfl) rfl), (tb_of (tb5 78 rfl) rfl), (tb_of (tb1 11 rfl) rfl), (tb_of (tb5 77 rfl) rfl), (tbp (lwp3 4 rfl) rfl)⟩
theorem clX12_175 : CLv RX12 175 yX12_adds cX12_adds 3 ((Option.none : Option FieldType)) := ⟨(tb_of (tb5 79 rfl) rfl), (tb_of (tb5 82 rfl) rfl), (tb_of (tb1 11 rfl) rfl), (tb_of (tb5 81 rfl) rfl), (tbp (lwp3 5 rfl) rfl)⟩
theorem clX12_168 : CLv RX12 168 yX12_of cX12_of 3 ((Option.some FieldType.int)) := ⟨(tb_of (tb5 83 rfl) rfl), (tb_of (tb5 86 rfl) rfl), (tb_of (tb1 11 rfl) rfl), (tb_of (tb5 85 rfl) rfl), (tbp (lwp3 6 rfl) rfl)⟩
theorem clX12_171 : CLv RX12 171 yX12_sets cX12_sets 4 ((Option.none : Option FieldType)) := ⟨(tb_of (tb5 87 rfl) rfl), (tb_of (tb5 90 rfl) rfl), (tb_of (tb1 11 rfl) rfl), (tb_of (tb5 89 rfl) rfl), (tbp (lwp3 7 rfl) rfl)⟩
theorem clX12_188 : CLv RX12 188 yX12_acts cX12_acts 2 ((Option.some FieldType.int)) := ⟨(tb_of (tb5 91 rfl) rfl), (tb_of (tb5 94 rfl) rfl), (tb_of (tb1 11 rfl) rfl), (tb_of (tb5 93 rfl) rfl), (tbp (lwp3 8 rfl) rfl)⟩
theorem clX12_164 : CLv RX12 164 yX12_does cX12_does 7 ((Option.none : Option FieldType)) := ⟨(tb_of (tb5 95 rfl) rfl), (tb_of (tb5 98 rfl) rfl), (tb_of (tb1 11 rfl) rfl), (tb_of (tb5 97 rfl) rfl), (tbp (lwp3 9 rfl) rfl)⟩
theorem clX12_191 : CLv RX12 191 yX12_holds cX12_holds 3 ((Option.some FieldType.boolean)) := ⟨(tb_of (tb5 99 rfl) rfl), (tb_of (tb5 102 rfl) rfl), (tb_of (tb1 11 rfl) rfl), (tb_of (tb5 101 rfl) rfl), (tbp (lwp3 10 rfl) rfl)⟩
theorem clX12_194 : CLv RX12 194 yX12_asks cX12_asks 3 ((Option.some FieldType.int)) := ⟨(tb_of (tb5 103 rfl) rfl), (tb_of (tb5 106 rfl) rfl), (tb_of (tb1 11 rfl) rfl), (tb_of (tb5 105 rfl) rfl), (tbp (lwp3 11 rfl) rfl)⟩
theorem clX12_185 : CLv RX12 185 yX12_childOf cX12_childOf 5 ((Option.some FieldType.int)) := ⟨(tb_of (tb5 107 rfl) rfl), (tb_of (tb5 110 rfl) rfl), (tb_of (tb1 11 rfl) rfl), (tb_of (tb5 109 rfl) rfl), (tbp (lwp3 12 rfl) rfl)⟩
theorem clX12_197 : CLv RX12 197 yX12_goesOn cX12_goesOn 7 ((Option.some FieldType.int)) := ⟨(tb_of (tb5 111 rfl) rfl), (tb_of (tb5 114 rfl) rfl), (tb_of (tb1 11 rfl) rfl), (tb_of (tb5 113 rfl) rfl), (tbp (lwp3 13 rfl) rfl)⟩
theorem clX12_203 : CLv RX12 203 yX12_children cX12_children 3 ((Option.some FieldType.int)) := ⟨(tb_of (tb5 115 rfl) rfl), (tb_of (tb5 118 rfl) rfl), (tb_of (tb1 11 rfl) rfl), (tb_of (tb5 117 rfl) rfl), (tbp (lwp3 14 rfl) rfl)⟩
theorem clX12_206 : CLs RX12 206 yX12_bits cX12_bits 3 ((Option.some FieldType.int)) := ⟨(tb_of (tb5 119 rfl) rfl), (tb_of (tb5 121 rfl) rfl), (tb_of (tb1 11 rfl) rfl), (tb_of (tb5 120 rfl) rfl)⟩
theorem clX12_200 : CLv RX12 200 yX12_aborts cX12_aborts 4 ((Option.some FieldType.int)) := ⟨(tb_of (tb5 122 rfl) rfl), (tb_of (tb5 125 rfl) rfl), (tb_of (tb1 11 rfl) rfl), (tb_of (tb5 124 rfl) rfl), (tbp (lwp3 15 rfl) rfl)⟩
theorem clX12_179 : CLv RX12 179 yX12_tells cX12_tells 4 ((Option.none : Option FieldType)) := ⟨(tb_of (tb5 126 rfl) rfl), (tb_of (tb5 129 rfl) rfl), (tb_of (tb1 11 rfl) rfl), (tb_of (tb5 128 rfl) rfl), (tbp (lwp4 0 rfl) rfl)⟩
theorem clX12_182 : CLv RX12 182 yX12_ends cX12_ends 2 ((Option.none : Option FieldType)) := ⟨(tb_of (tb5 130 rfl) rfl), (tb_of (tb5 133 rfl) rfl), (tb_of (tb1 11 rfl) rfl), (tb_of (tb5 132 rfl) rfl), (tbp (lwp4 1 rfl) rfl)⟩
theorem clX12_216 : CLv RX12 216 yX12_leaves cX12_leaves 3 ((Option.none : Option FieldType)) := ⟨(tb_of (tb5 134 rfl) rfl), (tb_of (tb5 137 rfl) rfl), (tb_of (tb1 11 rfl) rfl), (tb_of (tb5 136 rfl) rfl), (tbp (lwp4 2 rfl) rfl)⟩
theorem clX12_219 : CLv RX12 219 yX12_ticked cX12_ticked 2 ((Option.some FieldType.int)) := ⟨(tb_of (tb5 138 rfl) rfl), (tb_of (tb5 141 rfl) rfl), (tb_of (tb1 11 rfl) rfl), (tb_of (tb5 140 rfl) rfl), (tbp (lwp4 3 rfl) rfl)⟩
theorem clX12_222 : CLv RX12 222 yX12_hears cX12_hears 7 ((Option.some FieldType.int)) := ⟨(tb_of (tb5 142 rfl) rfl), (tb_of (tb5 145 rfl) rfl), (tb_of (tb1 11 rfl) rfl), (tb_of (tb5 144 rfl) rfl), (tbp (lwp4 4 rfl) rfl)⟩
theorem clX12_209 : CLv RX12 209 yX12_counts cX12_counts 4 ((Option.some FieldType.int)) := ⟨(tb_of (tb5 146 rfl) rfl), (tb_of (tb5 149 rfl) rfl), (tb_of (tb1 11 rfl) rfl), (tb_of (tb5 148 rfl) rfl), (tbp (lwp4 5 rfl) rfl)⟩
theorem clL_39 : CLv RL 39 yX12_run cX12_run 2 ((Option.some FieldType.int)) := ⟨(tb_of (tb5 150 rfl) rfl), (tb_of (tb5 153 rfl) rfl), (tb_of (tb1 11 rfl) rfl), (tb_of (tb5 151 rfl) rfl), (tb_of (tb5 152 rfl) rfl)⟩
theorem clX12_231 : CLv RX12 231 yX12_runs cX12_runs 3 ((Option.some FieldType.int)) := ⟨(tb_of (tb5 154 rfl) rfl), (tb_of (tb5 157 rfl) rfl), (tb_of (tb1 11 rfl) rfl), (tb_of (tb5 156 rfl) rfl), (tbp (lwp4 6 rfl) rfl)⟩
theorem clL_43 : CLv RL 43 yX12_foresee cX12_foresee 2 ((Option.some FieldType.int)) := ⟨(tb_of (tb5 158 rfl) rfl), (tb_of (tb5 161 rfl) rfl), (tb_of (tb1 11 rfl) rfl), (tb_of (tb5 159 rfl) rfl), (tb_of (tb5 160 rfl) rfl)⟩
theorem clX12_234 : CLs RX12 234 yX12_copies cX12_copies 3 ((Option.none : Option FieldType)) := ⟨(tb_of (tb5 162 rfl) rfl), (tb_of (tb5 164 rfl) rfl), (tb_of (tb1 11 rfl) rfl), (tb_of (tb5 163 rfl) rfl)⟩
theorem clL_47 : CLv RL 47 yX12_ticksToGo cX12_ticksToGo 2 ((Option.some FieldType.int)) := ⟨(tb_of (tb5 165 rfl) rfl), (tb_of (tb5 168 rfl) rfl), (tb_of (tb1 11 rfl) rfl), (tb_of (tb5 166 rfl) rfl), (tb_of (tb5 167 rfl) rfl)⟩
theorem clL_51 : CLv RL 51 yX12_abort cX12_abort 1 ((Option.some FieldType.int)) := ⟨(tb_of (tb5 169 rfl) rfl), (tb_of (tb5 172 rfl) rfl), (tb_of (tb1 11 rfl) rfl), (tb_of (tb5 170 rfl) rfl), (tb_of (tb5 171 rfl) rfl)⟩
theorem clL_55 : CLv RL 55 yX12_node cX12_node 3 ((Option.some FieldType.int)) := ⟨(tb_of (tb5 173 rfl) rfl), (tb_of (tb5 176 rfl) rfl), (tb_of (tb1 11 rfl) rfl), (tb_of (tb5 174 rfl) rfl), (tb_of (tb5 175 rfl) rfl)⟩
theorem clL_59 : CLv RL 59 yX12_child cX12_child 4 ((Option.some FieldType.int)) := ⟨(tb_of (tb5 177 rfl) rfl), (tb_of (tb5 180 rfl) rfl), (tb_of (tb1 11 rfl) rfl), (tb_of (tb5 178 rfl) rfl), (tb_of (tb5 179 rfl) rfl)⟩
theorem clL_63 : CLv RL 63 yX12_underWay cX12_underWay 2 ((Option.some FieldType.int)) := ⟨(tb_of (tb5 181 rfl) rfl), (tb_of (tb5 184 rfl) rfl), (tb_of (tb1 11 rfl) rfl), (tb_of (tb5 182 rfl) rfl), (tb_of (tb5 183 rfl) rfl)⟩
theorem clL_67 : CLv RL 67 yX12_pending cX12_pending 1 ((Option.some FieldType.int)) := ⟨(tb_of (tb5 185 rfl) rfl), (tb_of (tb5 188 rfl) rfl), (tb_of (tb1 11 rfl) rfl), (tb_of (tb5 186 rfl) rfl), (tb_of (tb5 187 rfl) rfl)⟩
theorem clL_71 : CLv RL 71 yX12_trace cX12_trace 3 ((Option.some FieldType.int)) := ⟨(tb_of (tb5 189 rfl) rfl), (tb_of (tb5 192 rfl) rfl), (tb_of (tb1 11 rfl) rfl), (tb_of (tb5 190 rfl) rfl), (tb_of (tb5 191 rfl) rfl)⟩
theorem clL_75 : CLv RL 75 yX12_count cX12_count 4 ((Option.some FieldType.int)) := ⟨(tb_of (tb5 193 rfl) rfl), (tb_of (tb5 196 rfl) rfl), (tb_of (tb1 11 rfl) rfl), (tb_of (tb5 194 rfl) rfl), (tb_of (tb5 195 rfl) rfl)⟩
theorem clL_79 : CLv RL 79 yX12_write cX12_write 3 ((Option.some FieldType.int)) := ⟨(tb_of (tb5 197 rfl) rfl), (tb_of (tb5 200 rfl) rfl), (tb_of (tb1 11 rfl) rfl), (tb_of (tb5 198 rfl) rfl), (tb_of (tb5 199 rfl) rfl)⟩
theorem clX12_250 : CLv RX12 250 yX12_writesNode cX12_writesNode 3 ((Option.none : Option FieldType)) := ⟨(tb_of (tb5 201 rfl) rfl), (tb_of (tb5 204 rfl) rfl), (tb_of (tb1 11 rfl) rfl), (tb_of (tb5 203 rfl) rfl), (tbp (lwp4 7 rfl) rfl)⟩
theorem clX12_244 : CLs RX12 244 yX12_letter cX12_letter 1 ((Option.some FieldType.int)) := ⟨(tb_of (tb5 205 rfl) rfl), (tb_of (tb5 207 rfl) rfl), (tb_of (tb1 11 rfl) rfl), (tb_of (tb5 206 rfl) rfl)⟩
theorem clX12_241 : CLv RX12 241 yX12_writes cX12_writes 2 ((Option.none : Option FieldType)) := ⟨(tb_of (tb5 208 rfl) rfl), (tb_of (tb5 211 rfl) rfl), (tb_of (tb1 11 rfl) rfl), (tb_of (tb5 210 rfl) rfl), (tbp (lwp4 8 rfl) rfl)⟩
theorem clX12_247 : CLv RX12 247 yX12_writesDeed cX12_writesDeed 4 ((Option.none : Option FieldType)) := ⟨(tb_of (tb5 212 rfl) rfl), (tb_of (tb5 215 rfl) rfl), (tb_of (tb1 11 rfl) rfl), (tb_of (tb5 214 rfl) rfl), (tbp (lwp4 9 rfl) rfl)⟩
theorem clL_83 : CLv RL 83 yX12_written cX12_written 2 ((Option.some FieldType.int)) := ⟨(tb_of (tb5 216 rfl) rfl), (tb_of (tb5 219 rfl) rfl), (tb_of (tb1 11 rfl) rfl), (tb_of (tb5 217 rfl) rfl), (tb_of (tb5 218 rfl) rfl)⟩
theorem clL_87 : CLv RL 87 yX12_save cX12_save 1 ((Option.some FieldType.int)) := ⟨(tb_of (tb5 220 rfl) rfl), (tb_of (tb5 223 rfl) rfl), (tb_of (tb1 11 rfl) rfl), (tb_of (tb5 221 rfl) rfl), (tb_of (tb5 222 rfl) rfl)⟩
theorem clL_91 : CLv RL 91 yX12_restore cX12_restore 1 ((Option.some FieldType.int)) := ⟨(tb_of (tb5 224 rfl) rfl), (tb_of (tb5 227 rfl) rfl), (tb_of (tb1 11 rfl) rfl), (tb_of (tb5 225 rfl) rfl), (tb_of (tb5 226 rfl) rfl)⟩
end
section
/-! the abstract heap: fields by number (100 * class + place) and address, int rows and reference rows by address and place -/
abbrev HS : Type := (Nat → Nat → Int32) × (Nat → Nat → Option Nat) × (Nat → Nat → Int32) × (Nat → Nat → Option Nat)
/-- what does not change: the addresses, the kind of each (a class of vwCl, or 13 char, 14 int, 15 Life, 16 Node rows), a row's length -/
abbrev LY : Type := List Nat × (Nat → Nat) × (Nat → Nat)
/-- classes, their slots, the array classes, addresses of the String constants and of their bytes -/
abbrev GG : Type := va_G × (Nat → ClassId) × (Nat → Nat) × (Nat → Nat)
def isR : Nat → Bool := fun f => [0, 104, 200, 209, 210, 302, 401, 402, 403, 408, 409, 410, 411, 412, 413, 500, 501, 600, 601, 602, 700, 800, 900, 901, 1000, 1001, 1100, 1101, 1102, 1103, 1104, 1105, 1106, 1107, 1108, 1200, 1201, 1202, 1204, 1205, 1209, 1210, 1211, 1212, 1213, 1214, 1215, 1216, 1217, 1218, 1219, 1223, 1224, 1225, 1226, 1227, 1228, 1229, 1230, 1231, 1232, 1233, 1234].contains f
def nfl : Nat → Nat := fun c => [1, 5, 11, 10, 14, 3, 3, 2, 2, 2, 2, 10, 39].getD c 0
def vl (S : HS) (f a : Nat) : Value := if isR f = true then va_rf (S.2.1 f a) else .int (S.1 f a)
def fv (S : HS) (c a : Nat) : List Value := (List.range (nfl c)).map fun k => vl S (100 * c + k) a
def ce (G : GG) (Y : LY) (S : HS) : Nat → va_E := fun a =>
  if Y.2.1 a = 13 then .inl (G.2.1 13, Y.2.2 a, .inl (S.2.2.1 a))
  else if Y.2.1 a = 14 then .inl (G.2.1 14, Y.2.2 a, .inl (S.2.2.1 a))
  else if Y.2.1 a = 15 then .inl (G.2.1 15, Y.2.2 a, .inr (.inr (.inr (.inr (S.2.2.2 a)))))
  else if Y.2.1 a = 16 then .inl (G.2.1 16, Y.2.2 a, .inr (.inr (.inr (.inr (S.2.2.2 a)))))
  else .inr (Y.2.1 a, fv S (Y.2.1 a) a)
abbrev tysG (G : GG) : List (ClassId × FieldType) := [(G.2.1 13, .char), (G.2.1 14, .int), (G.2.1 15, .object "BehaviorRunner$Life"), (G.2.1 16, .object "BehaviorRunner$Node")]
abbrev WP (G : GG) (Y : LY) (S : HS) (H : Heap) : Prop := va_P G.1 vwCl (va_pl Y.1 (ce G Y S)) H
abbrev WD (G : GG) (Y : LY) (S : HS) (A : Nat → Prop) : Prop := va_D A (va_pl Y.1 (ce G Y S))
/-- the String constants: their lengths, their bytes -/
def lenJS : List Nat := [15, 3, 3]
def bytJS : List (List Int32) := [[97, 120, 63, 61, 115, 102, 83, 70, 112, 33, 114, 116, 103, 119, 108], [60, 61, 62], [58, 43, 45]]
/-- what stays: the classes, the nest links, the String constants -/
def KK (G : GG) (U : State) : Prop := va_K G.1 vwCl (tysG G) U ∧ ∀ w ∈ tables_1, isNest w = true → va_Nw w U
def STR (G : GG) (A : Nat → Prop) (U : State) (H : Heap) : Prop :=
  vk_S 3 lenJS bytJS G.2.2.1 G.2.2.2 A U H ∧ va_Z "java/lang/String" "COMPACT_STRINGS" "Z" (.int 1) A U H ∧
  vk_R "BehaviorRunner$Parser" 37 "ax?=sfSFp!rtgwl" (G.2.2.1 0) U ∧ vk_R "BehaviorRunner$Parser" 67 "<=>" (G.2.2.1 1) U ∧ vk_R "BehaviorRunner$Parser" 73 ":+-" (G.2.2.1 2) U ∧ vk_R "BehaviorRunner$Writer" 43 "ax?=sfSFp!rtgwl" (G.2.2.1 0) U ∧ va_Zq "jdk/internal/util/Preconditions" "SIOOBE_FORMATTER" "Ljava/util/function/BiFunction;" A U H
theorem nest_warm {w : Cond} {s U : State} (hn : isNest w = true) (hW : s.WarmedH U.vm) (h : va_Nw w s) : va_Nw w U := by
  cases w <;> first | exact va_Nw.warmF hW h | exact va_Nw.warmM hW h | cases hn
theorem nest_same {w : Cond} {s U : State} (hn : isNest w = true) (hW : s.vm = U.vm) (h : va_Nw w s) : va_Nw w U := by
  cases w <;> first | exact va_Nw.same rfl hW h | cases hn
theorem KK.warm {G : GG} {s U : State} (hW : s.WarmedH U.vm) (h : KK G s) : KK G U := ⟨va_K.moved hW.alike h.1, fun w hw hn => nest_warm hn hW (h.2 w hw hn)⟩
theorem KK.same {G : GG} {s U : State} (hW : s.vm = U.vm) (h : KK G s) : KK G U := ⟨va_K.moved (by rw [hW]; exact Vm.Alike.refl _) h.1, fun w hw hn => nest_same hn hW (h.2 w hw hn)⟩
theorem STR.same {G : GG} {A : Nat → Prop} {s U : State} {H : Heap} (hW : U.vm = s.vm) (h : STR G A s H) : STR G A U H :=
  ⟨h.1.moved (by rw [hW]; exact Vm.Alike.refl _), h.2.1.moved (by rw [hW]; exact Vm.Alike.refl _), h.2.2.1.same hW, h.2.2.2.1.same hW, h.2.2.2.2.1.same hW, h.2.2.2.2.2.1.same hW, h.2.2.2.2.2.2.moved (by rw [hW]; exact Vm.Alike.refl _)⟩
theorem STR.warm {G : GG} {A : Nat → Prop} {s U : State} {H : Heap} (hW : s.WarmedH U.vm) (h : STR G A s H) : STR G A U H :=
  ⟨h.1.moved hW.alike, h.2.1.moved hW.alike, h.2.2.1.warm hW, h.2.2.2.1.warm hW, h.2.2.2.2.1.warm hW, h.2.2.2.2.2.1.warm hW, h.2.2.2.2.2.2.moved hW.alike⟩
theorem STR.kept {G : GG} {A : Nat → Prop} {U : State} {H H1 : Heap} (h : STR G A U H) (hq : ∀ a : Nat, a < H.size → ¬ A a → H1[a]? = H[a]?) : STR G A U H1 :=
  ⟨h.1.kept hq, h.2.1.kept hq, h.2.2.1, h.2.2.2.1, h.2.2.2.2.1, h.2.2.2.2.2.1, h.2.2.2.2.2.2.kept hq⟩
theorem STR.narrow {G : GG} {A B : Nat → Prop} {U : State} {H : Heap} (h : STR G A U H) (hAB : ∀ q, B q → A q) : STR G B U H :=
  ⟨h.1.narrow hAB, h.2.1.narrow hAB, h.2.2.1, h.2.2.2.1, h.2.2.2.2.1, h.2.2.2.2.2.1, h.2.2.2.2.2.2.narrow hAB⟩
def chk (Y : LY) (c a : Nat) : Bool := decide (a ∈ Y.1) && (Y.2.1 a == c)
theorem chk_in {Y : LY} {c a : Nat} (h : chk Y c a = true) : a ∈ Y.1 ∧ Y.2.1 a = c := by
  unfold chk at h
  simp only [Bool.and_eq_true, decide_eq_true_eq, beq_iff_eq] at h
  exact h
theorem ce_obj {G : GG} {Y : LY} {S : HS} {c a : Nat} (hc : c < 13) (h : Y.2.1 a = c) : ce G Y S a = .inr (c, fv S c a) := by
  subst h
  unfold ce
  rw [if_neg (by omega), if_neg (by omega), if_neg (by omega), if_neg (by omega)]
theorem ce_13 {G : GG} {Y : LY} {S : HS} {a : Nat} (h : Y.2.1 a = 13) : ce G Y S a = .inl (G.2.1 13, Y.2.2 a, .inl (S.2.2.1 a)) := by
  unfold ce; rw [if_pos h]
theorem ce_14 {G : GG} {Y : LY} {S : HS} {a : Nat} (h : Y.2.1 a = 14) : ce G Y S a = .inl (G.2.1 14, Y.2.2 a, .inl (S.2.2.1 a)) := by
  unfold ce; rw [if_neg (by omega), if_pos h]
theorem ce_15 {G : GG} {Y : LY} {S : HS} {a : Nat} (h : Y.2.1 a = 15) : ce G Y S a = .inl (G.2.1 15, Y.2.2 a, .inr (.inr (.inr (.inr (S.2.2.2 a))))) := by
  unfold ce; rw [if_neg (by omega), if_neg (by omega), if_pos h]
theorem ce_16 {G : GG} {Y : LY} {S : HS} {a : Nat} (h : Y.2.1 a = 16) : ce G Y S a = .inl (G.2.1 16, Y.2.2 a, .inr (.inr (.inr (.inr (S.2.2.2 a))))) := by
  unfold ce; rw [if_neg (by omega), if_neg (by omega), if_neg (by omega), if_pos h]
theorem fv_get {S : HS} {c k a : Nat} (hk : k < nfl c) : (fv S c a)[k]? = some (vl S (100 * c + k) a) := by
  unfold fv
  rw [List.getElem?_map, List.getElem?_range hk]
  rfl
theorem fv_len {S : HS} {c a : Nat} : (fv S c a).length = nfl c := by simp [fv]
/-- two heaps that differ in one field of one object -/
def Diff1 (S S1 : HS) (f a : Nat) : Prop := (∀ g b, (g ≠ f ∨ b ≠ a) → vl S1 g b = vl S g b) ∧ S1.2.2 = S.2.2
theorem fv_set {S S1 : HS} {c k a : Nat} (hk : k < nfl c) (h : Diff1 S S1 (100 * c + k) a) : (fv S c a).set k (vl S1 (100 * c + k) a) = fv S1 c a := by
  apply List.ext_getElem?
  intro j
  by_cases hj : j = k
  · subst hj
    rw [List.getElem?_set_self (by rw [fv_len]; exact hk), fv_get hk]
  · rw [List.getElem?_set_ne (Ne.symm hj)]
    by_cases hl : j < nfl c
    · rw [fv_get hl, fv_get hl, h.1 _ _ (Or.inl (by omega))]
    · rw [List.getElem?_eq_none (by rw [fv_len]; omega), List.getElem?_eq_none (by rw [fv_len]; omega)]
theorem ce_set {G : GG} {Y : LY} {S S1 : HS} {c k a : Nat} (hc : c < 13) (hK : Y.2.1 a = c) (hk : k < nfl c) (h : Diff1 S S1 (100 * c + k) a) (b : Nat) : va_up (ce G Y S) a (.inr (c, (fv S c a).set k (vl S1 (100 * c + k) a))) b = ce G Y S1 b := by
  by_cases hb : b = a
  · subst hb
    rw [va_up_self, fv_set hk h, ce_obj hc hK]
  · rw [va_up_ne _ _ hb]
    unfold ce
    rw [h.2]
    have e : fv S (Y.2.1 b) b = fv S1 (Y.2.1 b) b := by
      unfold fv
      apply List.map_congr_left
      intro j _
      rw [h.1 _ _ (Or.inr hb)]
    rw [e]
theorem WD_eq {G : GG} {Y : LY} {S S1 : HS} {A : Nat → Prop} (h : WD G Y S A) : WD G Y S1 A := by
  have key : ∀ (k : Nat) (q : Nat × va_E), (va_pl Y.1 (ce G Y S1))[k]? = some q → (va_pl Y.1 (ce G Y S))[k]? = some (q.1, ce G Y S q.1) := by
    intro k q hk
    simp only [va_pl, List.getElem?_map] at hk ⊢
    cases hb : Y.1[k]? with
    | none => rw [hb] at hk; cases hk
    | some b => rw [hb] at hk; cases hk; rfl
  exact ⟨fun i j p q hi hj e => h.1 i j _ _ (key i p hi) (key j q hj) e, fun k q hk => h.2 k (q.1, ce G Y S q.1) (key k q hk)⟩
theorem WD_in {G : GG} {Y : LY} {S : HS} {A : Nat → Prop} (h : WD G Y S A) {a : Nat} (ha : a ∈ Y.1) : A a := by
  obtain ⟨k, hk⟩ := va_pl_get (X := []) (f := ce G Y S) ha
  exact h.2 k _ hk
/-- what a walk holds at each step -/
def HP (A : Nat → Prop) (G : GG) (Y : LY) (s : State) (S : HS) (H : Heap) (locs : List Loc) : Prop := WP G Y S H ∧ WD G Y S A ∧ va_S A s.heap H locs
/-- what a method's frame knows for good -/
def Cx (p : Program) (R : Room) (s : State) (m : MethodId) (args : Array Value) (meth : Method) (c : Code) (own : String) (cc : ByteArray) (nL : Nat) (nf nl : Nat) (A : Nat → Prop) (G : GG) (rt : Option FieldType) : Prop :=
  (p.tables.exec = Jvm.exec ∧ c.code = cc ∧ c.maxLocals = nL ∧ s.vm.findClass own = some m.cls ∧ ∀ w ∈ TBL, w.before args s = true) ∧ KK G s ∧ STR G A s s.heap ∧ meth.locks = false ∧ meth.sig.returnType = rt ∧ nf ≤ R.frames ∧ nl ≤ R.locals ∧ (0 ≤ R.cells ∧ 0 ≤ R.slots)
theorem ob {α β : Type} {x : Option α} {f : α → Option β} {r : β} (h : x.bind f = some r) : ∃ v, x = some v ∧ f v = some r := by
  cases x with
  | none => cases h
  | some v => exact ⟨v, rfl, h⟩
theorem ifp {α : Type} {c : Prop} [Decidable c] {a b r : α} (h : (if c then a else b) = r) (hc : c) : a = r := by rw [if_pos hc] at h; exact h
theorem ifn {α : Type} {c : Prop} [Decidable c] {a b r : α} (h : (if c then a else b) = r) (hc : ¬ c) : b = r := by rw [if_neg hc] at h; exact h
/-! reads and writes -/
def upN {α : Type} (F : Nat → Nat → α) (f a : Nat) (v : α) : Nat → Nat → α := fun g b => if g = f ∧ b = a then v else F g b
def gI (Y : LY) (c f : Nat) (r : Option Nat) (S : HS) : Option Int32 := r.bind fun a => if chk Y c a = true then some (S.1 f a) else none
def gR (Y : LY) (c f : Nat) (r : Option Nat) (S : HS) : Option (Option Nat) := r.bind fun a => if chk Y c a = true then some (S.2.1 f a) else none
def pI (Y : LY) (c f : Nat) (r : Option Nat) (v : Int32) (S : HS) : Option HS := r.bind fun a => if chk Y c a = true then some (upN S.1 f a v, S.2) else none
def pZ (Y : LY) (c f : Nat) (r : Option Nat) (v : Int32) (S : HS) : Option HS := if v = 0 ∨ v = 1 then pI Y c f r v S else none
def pC (Y : LY) (c f : Nat) (r : Option Nat) (v : Int32) (S : HS) : Option HS := if vp_nar .char v = v then pI Y c f r v S else none
def pR (Y : LY) (c f : Nat) (r : Option Nat) (v : Option Nat) (S : HS) : Option HS := r.bind fun a => if chk Y c a = true then some (S.1, upN S.2.1 f a v, S.2.2) else none
def inr (i : Int32) (n : Nat) : Bool := !(decide (i < 0)) && decide (i.toNatClampNeg < n)
theorem inr_in {i : Int32} {n : Nat} (h : inr i n = true) : vp_in i n := by
  unfold inr at h
  simp only [Bool.and_eq_true, Bool.not_eq_true', decide_eq_false_iff_not, decide_eq_true_eq] at h
  intro q
  rcases q with q | q
  · exact h.1 q
  · omega
def gA (Y : LY) (k : Nat) (r : Option Nat) (i : Int32) (S : HS) : Option Int32 := r.bind fun a => if (chk Y k a && inr i (Y.2.2 a)) = true then some (S.2.2.1 a i.toNatClampNeg) else none
def gQ (Y : LY) (k : Nat) (r : Option Nat) (i : Int32) (S : HS) : Option (Option Nat) := r.bind fun a => if (chk Y k a && inr i (Y.2.2 a)) = true then some (S.2.2.2 a i.toNatClampNeg) else none
def pA (Y : LY) (k : Nat) (r : Option Nat) (i v : Int32) (S : HS) : Option HS := r.bind fun a => if (chk Y k a && inr i (Y.2.2 a)) = true then some (S.1, S.2.1, upN S.2.2.1 a i.toNatClampNeg v, S.2.2.2) else none
def aL (Y : LY) (k : Nat) (r : Option Nat) : Option Int32 := r.bind fun a => if chk Y k a = true then some (Int32.ofNat (Y.2.2 a)) else none
def cpA (Y : LY) (r : Option Nat) (sp : Int32) (r2 : Option Nat) (dp n : Int32) (S : HS) : Option HS := r.bind fun a => r2.bind fun b => if (chk Y 14 a && chk Y 14 b) = true ∧ ¬ sp < 0 ∧ ¬ dp < 0 ∧ ¬ n < 0 ∧ sp.toNatClampNeg + n.toNatClampNeg ≤ Y.2.2 a ∧ dp.toNatClampNeg + n.toNatClampNeg ≤ Y.2.2 b then some (S.1, S.2.1, va_up S.2.2.1 b (va_cpy (S.2.2.1 a) (S.2.2.1 b) sp.toNatClampNeg dp.toNatClampNeg n.toNatClampNeg), S.2.2.2) else none
def rcv (Y : LY) (c : Nat) (r : Option Nat) : Option Unit := r.bind fun a => if chk Y c a = true then some () else none
def zr (v : Int32) : Option Int32 := if v = 0 ∨ v = 1 then some v else none
theorem rc_some {Y : LY} {c : Nat} {r : Option Nat} {α : Type} {g : Nat → α} {x : α} (h : (r.bind fun a => if chk Y c a = true then some (g a) else none) = some x) : ∃ a, r = some a ∧ chk Y c a = true ∧ g a = x := by
  cases r with
  | none => cases h
  | some a =>
    by_cases hc : chk Y c a = true
    · have h' : (if chk Y c a = true then some (g a) else none) = some x := h
      rw [if_pos hc] at h'
      exact ⟨a, rfl, hc, Option.some.inj h'⟩
    · have h' : (if chk Y c a = true then some (g a) else none) = some x := h
      rw [if_neg hc] at h'
      cases h'
theorem rc_some2 {Y : LY} {c : Nat} {i : Int32} {r : Option Nat} {α : Type} {g : Nat → α} {x : α} (h : (r.bind fun a => if (chk Y c a && inr i (Y.2.2 a)) = true then some (g a) else none) = some x) : ∃ a, r = some a ∧ chk Y c a = true ∧ vp_in i (Y.2.2 a) ∧ g a = x := by
  cases r with
  | none => cases h
  | some a =>
    by_cases hc : (chk Y c a && inr i (Y.2.2 a)) = true
    · have h' : (if (chk Y c a && inr i (Y.2.2 a)) = true then some (g a) else none) = some x := h
      rw [if_pos hc] at h'
      rw [Bool.and_eq_true] at hc
      exact ⟨a, rfl, hc.1, inr_in hc.2, Option.some.inj h'⟩
    · have h' : (if (chk Y c a && inr i (Y.2.2 a)) = true then some (g a) else none) = some x := h
      rw [if_neg hc] at h'
      cases h'
end
section
/-! rows of the walks: an instruction, a row; reads and writes by the abstract heap's functions -/
theorem vw_nfl {c : Nat} {r : vw_C} (h : vwCl[c]? = some r) : c < 13 ∧ r.2.2 = nfl c := by
  match c, h with
  | 0, h => cases h; exact ⟨by decide, rfl⟩
  | 1, h => cases h; exact ⟨by decide, rfl⟩
  | 2, h => cases h; exact ⟨by decide, rfl⟩
  | 3, h => cases h; exact ⟨by decide, rfl⟩
  | 4, h => cases h; exact ⟨by decide, rfl⟩
  | 5, h => cases h; exact ⟨by decide, rfl⟩
  | 6, h => cases h; exact ⟨by decide, rfl⟩
  | 7, h => cases h; exact ⟨by decide, rfl⟩
  | 8, h => cases h; exact ⟨by decide, rfl⟩
  | 9, h => cases h; exact ⟨by decide, rfl⟩
  | 10, h => cases h; exact ⟨by decide, rfl⟩
  | 11, h => cases h; exact ⟨by decide, rfl⟩
  | 12, h => cases h; exact ⟨by decide, rfl⟩
  | n + 13, h => simp [vwCl] at h
abbrev RM (f lo : Nat) : Room := { frames := f, cells := 0, slots := 0, locals := lo }
def PY (y : MethodName) (k : Nat) : Prop := y.cls ≠ "java/lang/invoke/MethodHandle" ∧ y.cls ≠ "java/lang/invoke/VarHandle" ∧ (parseMethodDescriptor y.desc).map (fun d => d.parameters.length) = some k
def PreW (G : GG) (Y : LY) (S : HS) (av : List Value) : Array Value → State → Prop := va_Pc av (fun U => WP G Y S U.heap ∧ WD G Y S (fun q => q ∈ Y.1) ∧ KK G U ∧ STR G (fun q => q ∈ Y.1) U U.heap)
def QI (G : GG) (Y : LY) (S : HS) (r : Option Value) : Array Value → State → Outcome → State → Prop := fun _ st o t => o = .returned r ∧ WP G Y S t.heap ∧ va_F (fun q => q ∈ Y.1) st t
/-- a method's contract: from the heap S with these arguments it ends with S1 and the answer r; nothing new, nothing outside changed -/
def MM (l : Launch) (y : MethodName) (b : ByteArray) (n : Nat) (ret : Option FieldType) (f lo : Nat) (G : GG) (Y : LY) (S : HS) (av : List Value) (S1 : HS) (r : Option Value) : Prop :=
  Met l y (.code y b n ret :: TBL) (RM f lo) (PreW G Y S av) (QI G Y S1 r) 0 0 (fun q => q ∈ Y.1)
section RW
variable {p : Program} {l : Launch} {e : Env} {R : Room} {s : State} {m : MethodId} {args : Array Value} {below : List Frame} {meth : Method} {c : Code} {H : Heap} {locs : List Loc} {cells slots : Nat} {Q : State → Prop}
variable {own : String} {cc : ByteArray} {nL nf nl : Nat} {A : Nat → Prop} {G : GG} {rt : Option FieldType} {Y : LY} {S S1 : HS} {pc : Nat} {ls : Array Slot} {rest : List Value}
theorem rw_get (X : Cx p R s m args meth c own cc nL nf nl A G rt) {index cN k a : Nat} (hdg : decode cc pc = .ok (.getfield index, 3)) (hF : FLk own index cN k) (hc : chk Y cN a = true) (hP : HP A G Y s S H locs)
    (kk : W p l e R s m args below meth c H locs cells slots Q (F0 m (pc + 3) ls (vl S (100 * cN + k) a :: rest))) : W p l e R s m args below meth c H locs cells slots Q (F0 m pc ls (.ref a :: rest)) := by
  obtain ⟨⟨hx, hb, hml, hown, hts⟩, hKK, -⟩ := X
  obtain ⟨C, T, N, h1, h2, h3, h4, h5⟩ := hF
  obtain ⟨h6, h7⟩ := vw_nfl h1
  have hk : k < nfl cN := by rw [← h7]; exact h2
  obtain ⟨ha, hk2⟩ := chk_in hc
  obtain ⟨i, hi⟩ := va_pl_get (X := []) (f := ce G Y S) ha
  rw [ce_obj h6 hk2] at hi
  have hsame : ∀ x, s.fieldFound? (T k).1 (T k).2.1 (T k).2.2.1 = some x → s.fieldFound? C (T k).2.1 (T k).2.2.1 = some x := by rw [h4]; exact fun x h => h
  rcases h5 with h5 | ⟨host, h5⟩
  · exact va_get hx hb hts h3 hown hKK.1 hP.1 i hi h1 k h2 (hts _ h5) hsame (fv_get hk) hdg kk
  · exact va_getN hx hb hts h3 hown hKK.1 hP.1 i hi h1 k h2 (va_Nw.use rfl (hKK.2 _ h5 rfl)) hsame (fv_get hk) hdg kk
theorem rw_getI (X : Cx p R s m args meth c own cc nL nf nl A G rt) {index cN k f : Nat} {r : Option Nat} {v : Int32} (hdg : decode cc pc = .ok (.getfield index, 3)) (hF : FLk own index cN k) (h : gI Y cN f r S = some v) (hf : (f == 100 * cN + k && !isR f) = true) (hP : HP A G Y s S H locs)
    (kk : W p l e R s m args below meth c H locs cells slots Q (F0 m (pc + 3) ls (.int v :: rest))) : W p l e R s m args below meth c H locs cells slots Q (F0 m pc ls (va_rf r :: rest)) := by
  obtain ⟨a, rfl, hc, rfl⟩ := rc_some h
  simp only [Bool.and_eq_true, beq_iff_eq, Bool.not_eq_true'] at hf
  refine rw_get X hdg hF hc hP ?_
  rw [← hf.1]
  unfold vl
  rw [hf.2]
  exact kk
theorem rw_getR (X : Cx p R s m args meth c own cc nL nf nl A G rt) {index cN k f : Nat} {r v : Option Nat} (hdg : decode cc pc = .ok (.getfield index, 3)) (hF : FLk own index cN k) (h : gR Y cN f r S = some v) (hf : (f == 100 * cN + k && isR f) = true) (hP : HP A G Y s S H locs)
    (kk : W p l e R s m args below meth c H locs cells slots Q (F0 m (pc + 3) ls (va_rf v :: rest))) : W p l e R s m args below meth c H locs cells slots Q (F0 m pc ls (va_rf r :: rest)) := by
  obtain ⟨a, rfl, hc, rfl⟩ := rc_some h
  simp only [Bool.and_eq_true, beq_iff_eq] at hf
  refine rw_get X hdg hF hc hP ?_
  rw [← hf.1]
  unfold vl
  rw [hf.2]
  exact kk
theorem rw_put (X : Cx p R s m args meth c own cc nL nf nl A G rt) {index cN k a : Nat} {ty : FieldType} (hdg : decode cc pc = .ok (.putfield index, 3)) (hF : FLk own index cN k) (hW : FLw cN k ty) (hc : chk Y cN a = true) (hP : HP A G Y s S H locs)
    (hd : Diff1 S S1 (100 * cN + k) a) (hn : narrow ty (vl S1 (100 * cN + k) a) = vl S1 (100 * cN + k) a) (hfit : fits ty (vl S1 (100 * cN + k) a) = true)
    (kk : ∀ (H : Heap) (locs : List Loc), HP A G Y s S1 H locs → W p l e R s m args below meth c H locs cells slots Q (F0 m (pc + 3) ls rest)) : W p l e R s m args below meth c H locs cells slots Q (F0 m pc ls (vl S1 (100 * cN + k) a :: .ref a :: rest)) := by
  obtain ⟨⟨hx, hb, hml, hown, hts⟩, hKK, -⟩ := X
  obtain ⟨C, T, N, h1, h2, h3, h4, h5⟩ := hF
  obtain ⟨C', T', N', ty0, g1, g2, g3, g4, g5⟩ := hW
  rw [h1] at g1
  cases g1
  obtain ⟨h6, h7⟩ := vw_nfl h1
  have hk : k < nfl cN := by rw [← h7]; exact h2
  obtain ⟨ha, hk2⟩ := chk_in hc
  obtain ⟨i, hi⟩ := va_pl_get (X := []) (f := ce G Y S) ha
  have hi0 := hi
  rw [ce_obj h6 hk2] at hi
  have hsame : ∀ x, s.fieldFound? (T k).1 (T k).2.1 (T k).2.2.1 = some x → s.fieldFound? C (T k).2.1 (T k).2.2.1 = some x := by rw [h4]; exact fun x h => h
  obtain ⟨hP1, hP2, hP3⟩ := hP
  have hset : (va_pl Y.1 (ce G Y S)).set i (a, .inr (cN, (fv S cN a).set k (vl S1 (100 * cN + k) a))) = va_pl Y.1 (ce G Y S1) := by
    have e := va_pl_set (X := []) hP2 ha hi0 (e := .inr (cN, (fv S cN a).set k (vl S1 (100 * cN + k) a)))
    exact e.trans (va_pl_congr (ce_set h6 hk2 hk hd))
  have kk' : ∀ (H1 : Heap) (locs1 : List Loc), va_P G.1 vwCl ((va_pl Y.1 (ce G Y S)).set i (a, .inr (cN, (fv S cN a).set k (vl S1 (100 * cN + k) a)))) H1 → va_D A ((va_pl Y.1 (ce G Y S)).set i (a, .inr (cN, (fv S cN a).set k (vl S1 (100 * cN + k) a)))) → va_S A s.heap H1 locs1 → W p l e R s m args below meth c H1 locs1 cells slots Q (F0 m (pc + 3) ls rest) := by
    intro H1 locs1 q1 q2 q3
    rw [hset] at q1 q2
    exact kk H1 locs1 ⟨q1, q2, q3⟩
  rcases h5 with h5 | ⟨host, h5⟩
  · exact va_put hx hb hts h3 ty0 g2 g3 hown hKK.1 hP1 hP2 hP3 i hi h1 k h2 (hts _ h5) hsame g4 g5 hn hfit (by rw [fv_len]; exact hk) hdg kk'
  · exact va_putN hx hb hts h3 ty0 g2 g3 hown hKK.1 hP1 hP2 hP3 i hi h1 k h2 (va_Nw.use rfl (hKK.2 _ h5 rfl)) hsame g4 g5 hn hfit (by rw [fv_len]; exact hk) hdg kk'
theorem diff_I {f a : Nat} {v : Int32} (hR : isR f = false) : Diff1 S (upN S.1 f a v, S.2) f a ∧ vl (upN S.1 f a v, S.2) f a = .int v := by
  refine ⟨⟨fun g b h => ?_, rfl⟩, ?_⟩
  · unfold vl
    have e : upN S.1 f a v g b = S.1 g b := by
      unfold upN
      rw [if_neg]
      intro q
      rcases h with h | h
      · exact h q.1
      · exact h q.2
    show (if isR g = true then va_rf (S.2.1 g b) else .int (upN S.1 f a v g b)) = _
    rw [e]
  · unfold vl
    rw [hR]
    show Value.int (upN S.1 f a v f a) = _
    simp [upN]
theorem diff_R {f a : Nat} {v : Option Nat} (hR : isR f = true) : Diff1 S (S.1, upN S.2.1 f a v, S.2.2) f a ∧ vl (S.1, upN S.2.1 f a v, S.2.2) f a = va_rf v := by
  refine ⟨⟨fun g b h => ?_, rfl⟩, ?_⟩
  · unfold vl
    have e : upN S.2.1 f a v g b = S.2.1 g b := by
      unfold upN
      rw [if_neg]
      intro q
      rcases h with h | h
      · exact h q.1
      · exact h q.2
    show (if isR g = true then va_rf (upN S.2.1 f a v g b) else .int (S.1 g b)) = _
    rw [e]
  · unfold vl
    rw [hR]
    show va_rf (upN S.2.1 f a v f a) = _
    simp [upN]
theorem rw_putI (X : Cx p R s m args meth c own cc nL nf nl A G rt) {index cN k f : Nat} {r : Option Nat} {v : Int32} (hdg : decode cc pc = .ok (.putfield index, 3)) (hF : FLk own index cN k) (hW : FLw cN k .int) (h : pI Y cN f r v S = some S1) (hf : (f == 100 * cN + k && !isR f) = true) (hP : HP A G Y s S H locs)
    (kk : ∀ (H : Heap) (locs : List Loc), HP A G Y s S1 H locs → W p l e R s m args below meth c H locs cells slots Q (F0 m (pc + 3) ls rest)) : W p l e R s m args below meth c H locs cells slots Q (F0 m pc ls (.int v :: va_rf r :: rest)) := by
  obtain ⟨a, rfl, hc, rfl⟩ := rc_some h
  simp only [Bool.and_eq_true, beq_iff_eq, Bool.not_eq_true'] at hf
  obtain ⟨hf1, hf2⟩ := hf
  obtain ⟨d1, d2⟩ := diff_I (S := S) (a := a) (v := v) hf2
  rw [hf1] at d1 d2 kk
  have := rw_put X hdg hF hW hc hP d1 (by rw [d2]; rfl) (by rw [d2]; rfl) kk
  rw [d2] at this
  exact this
theorem rw_putZ (X : Cx p R s m args meth c own cc nL nf nl A G rt) {index cN k f : Nat} {r : Option Nat} {v : Int32} (hdg : decode cc pc = .ok (.putfield index, 3)) (hF : FLk own index cN k) (hW : FLw cN k .boolean) (h : pZ Y cN f r v S = some S1) (hf : (f == 100 * cN + k && !isR f) = true) (hP : HP A G Y s S H locs)
    (kk : ∀ (H : Heap) (locs : List Loc), HP A G Y s S1 H locs → W p l e R s m args below meth c H locs cells slots Q (F0 m (pc + 3) ls rest)) : W p l e R s m args below meth c H locs cells slots Q (F0 m pc ls (.int v :: va_rf r :: rest)) := by
  unfold pZ at h
  by_cases hv : v = 0 ∨ v = 1
  · rw [if_pos hv] at h
    obtain ⟨a, rfl, hc, rfl⟩ := rc_some h
    simp only [Bool.and_eq_true, beq_iff_eq, Bool.not_eq_true'] at hf
    obtain ⟨hf1, hf2⟩ := hf
    obtain ⟨d1, d2⟩ := diff_I (S := S) (a := a) (v := v) hf2
    rw [hf1] at d1 d2 kk
    have := rw_put X hdg hF hW hc hP d1 (by rw [d2]; rcases hv with rfl | rfl <;> decide +kernel) (by rw [d2]; rcases hv with rfl | rfl <;> decide +kernel) kk
    rw [d2] at this
    exact this
  · rw [if_neg hv] at h
    cases h
theorem rw_putC (X : Cx p R s m args meth c own cc nL nf nl A G rt) {index cN k f : Nat} {r : Option Nat} {v : Int32} (hdg : decode cc pc = .ok (.putfield index, 3)) (hF : FLk own index cN k) (hW : FLw cN k .char) (h : pC Y cN f r v S = some S1) (hf : (f == 100 * cN + k && !isR f) = true) (hP : HP A G Y s S H locs)
    (kk : ∀ (H : Heap) (locs : List Loc), HP A G Y s S1 H locs → W p l e R s m args below meth c H locs cells slots Q (F0 m (pc + 3) ls rest)) : W p l e R s m args below meth c H locs cells slots Q (F0 m pc ls (.int v :: va_rf r :: rest)) := by
  unfold pC at h
  by_cases hv : vp_nar .char v = v
  · rw [if_pos hv] at h
    obtain ⟨a, rfl, hc, rfl⟩ := rc_some h
    simp only [Bool.and_eq_true, beq_iff_eq, Bool.not_eq_true'] at hf
    obtain ⟨hf1, hf2⟩ := hf
    obtain ⟨d1, d2⟩ := diff_I (S := S) (a := a) (v := v) hf2
    rw [hf1] at d1 d2 kk
    rw [vp_nar_char] at hv
    have h2 : (v.toUInt32 % 65536).toInt32 = v.toUInt32.toUInt16.toUInt32.toInt32 := by
      congr 1
    have hv2 : (v.toUInt32 % 65536).toInt32 = v := h2.trans hv
    have := rw_put X hdg hF hW hc hP d1 (by rw [d2, ← hv2]; exact pk_nc v) (by rw [d2, ← hv2]; exact pk_fc v) kk
    rw [d2] at this
    exact this
  · rw [if_neg hv] at h
    cases h
theorem rw_putR (X : Cx p R s m args meth c own cc nL nf nl A G rt) {index cN k f : Nat} {r v : Option Nat} {C : String} (hdg : decode cc pc = .ok (.putfield index, 3)) (hF : FLk own index cN k) (hW : FLw cN k (.object C)) (h : pR Y cN f r v S = some S1) (hf : (f == 100 * cN + k && isR f) = true) (hP : HP A G Y s S H locs)
    (kk : ∀ (H : Heap) (locs : List Loc), HP A G Y s S1 H locs → W p l e R s m args below meth c H locs cells slots Q (F0 m (pc + 3) ls rest)) : W p l e R s m args below meth c H locs cells slots Q (F0 m pc ls (va_rf v :: va_rf r :: rest)) := by
  obtain ⟨a, rfl, hc, rfl⟩ := rc_some h
  simp only [Bool.and_eq_true, beq_iff_eq] at hf
  obtain ⟨hf1, hf2⟩ := hf
  obtain ⟨d1, d2⟩ := diff_R (S := S) (a := a) (v := v) hf2
  rw [hf1] at d1 d2 kk
  have := rw_put X hdg hF hW hc hP d1 (by rw [d2]; cases v <;> rfl) (by rw [d2]; cases v <;> rfl) kk
  rw [d2] at this
  exact this
theorem rw_iald (X : Cx p R s m args meth c own cc nL nf nl A G rt) {r : Option Nat} {i v : Int32} (hdg : decode cc pc = .ok (.iaload, 1)) (h : gA Y 14 r i S = some v) (hP : HP A G Y s S H locs)
    (kk : W p l e R s m args below meth c H locs cells slots Q (F0 m (pc + 1) ls (.int v :: rest))) : W p l e R s m args below meth c H locs cells slots Q (F0 m pc ls (.int i :: va_rf r :: rest)) := by
  obtain ⟨a, rfl, hc, hin, rfl⟩ := rc_some2 h
  obtain ⟨⟨hx, hb, hml, hown, hts⟩, hKK, -⟩ := X
  obtain ⟨ha, hk2⟩ := chk_in hc
  obtain ⟨j, hj⟩ := va_pl_get (X := []) (f := ce G Y S) ha
  rw [ce_14 hk2] at hj
  exact va_iald hx hb hKK.1 hP.1 j 1 hj rfl hin hdg kk
theorem rw_cald (X : Cx p R s m args meth c own cc nL nf nl A G rt) {r : Option Nat} {i v : Int32} (hdg : decode cc pc = .ok (.caload, 1)) (h : gA Y 13 r i S = some v) (hP : HP A G Y s S H locs)
    (kk : W p l e R s m args below meth c H locs cells slots Q (F0 m (pc + 1) ls (.int v :: rest))) : W p l e R s m args below meth c H locs cells slots Q (F0 m pc ls (.int i :: va_rf r :: rest)) := by
  obtain ⟨a, rfl, hc, hin, rfl⟩ := rc_some2 h
  obtain ⟨⟨hx, hb, hml, hown, hts⟩, hKK, -⟩ := X
  obtain ⟨ha, hk2⟩ := chk_in hc
  obtain ⟨j, hj⟩ := va_pl_get (X := []) (f := ce G Y S) ha
  rw [ce_13 hk2] at hj
  exact va_cald hx hb hKK.1 hP.1 j 0 hj rfl hin hdg kk
theorem rw_aald15 (X : Cx p R s m args meth c own cc nL nf nl A G rt) {r v : Option Nat} {i : Int32} (hdg : decode cc pc = .ok (.aaload, 1)) (h : gQ Y 15 r i S = some v) (hP : HP A G Y s S H locs)
    (kk : W p l e R s m args below meth c H locs cells slots Q (F0 m (pc + 1) ls (va_rf v :: rest))) : W p l e R s m args below meth c H locs cells slots Q (F0 m pc ls (.int i :: va_rf r :: rest)) := by
  obtain ⟨a, rfl, hc, hin, rfl⟩ := rc_some2 h
  obtain ⟨⟨hx, hb, hml, hown, hts⟩, hKK, -⟩ := X
  obtain ⟨ha, hk2⟩ := chk_in hc
  obtain ⟨j, hj⟩ := va_pl_get (X := []) (f := ce G Y S) ha
  rw [ce_15 hk2] at hj
  exact va_aldq hx hb hKK.1 hP.1 j 2 hj rfl hin hdg kk
theorem rw_aald16 (X : Cx p R s m args meth c own cc nL nf nl A G rt) {r v : Option Nat} {i : Int32} (hdg : decode cc pc = .ok (.aaload, 1)) (h : gQ Y 16 r i S = some v) (hP : HP A G Y s S H locs)
    (kk : W p l e R s m args below meth c H locs cells slots Q (F0 m (pc + 1) ls (va_rf v :: rest))) : W p l e R s m args below meth c H locs cells slots Q (F0 m pc ls (.int i :: va_rf r :: rest)) := by
  obtain ⟨a, rfl, hc, hin, rfl⟩ := rc_some2 h
  obtain ⟨⟨hx, hb, hml, hown, hts⟩, hKK, -⟩ := X
  obtain ⟨ha, hk2⟩ := chk_in hc
  obtain ⟨j, hj⟩ := va_pl_get (X := []) (f := ce G Y S) ha
  rw [ce_16 hk2] at hj
  exact va_aldq hx hb hKK.1 hP.1 j 3 hj rfl hin hdg kk
theorem rw_alen (X : Cx p R s m args meth c own cc nL nf nl A G rt) {k : Nat} {r : Option Nat} {v : Int32} (hk : k = 13 ∨ k = 14 ∨ k = 15 ∨ k = 16) (hdg : decode cc pc = .ok (.arraylength, 1)) (h : aL Y k r = some v) (hP : HP A G Y s S H locs)
    (kk : W p l e R s m args below meth c H locs cells slots Q (F0 m (pc + 1) ls (.int v :: rest))) : W p l e R s m args below meth c H locs cells slots Q (F0 m pc ls (va_rf r :: rest)) := by
  obtain ⟨a, rfl, hc, rfl⟩ := rc_some h
  obtain ⟨⟨hx, hb, hml, hown, hts⟩, hKK, -⟩ := X
  obtain ⟨ha, hk2⟩ := chk_in hc
  obtain ⟨j, hj⟩ := va_pl_get (X := []) (f := ce G Y S) ha
  rcases hk with rfl | rfl | rfl | rfl
  · rw [ce_13 hk2] at hj
    exact va_alen hx hb hKK.1 hP.1 j 0 hj rfl rfl hdg kk
  · rw [ce_14 hk2] at hj
    exact va_alen hx hb hKK.1 hP.1 j 1 hj rfl rfl hdg kk
  · rw [ce_15 hk2] at hj
    exact va_alen hx hb hKK.1 hP.1 j 2 hj rfl rfl hdg kk
  · rw [ce_16 hk2] at hj
    exact va_alen hx hb hKK.1 hP.1 j 3 hj rfl rfl hdg kk
theorem ce_row {a : Nat} (g : Nat → Int32) (hk : Y.2.1 a = 13 ∨ Y.2.1 a = 14) (b : Nat) : va_up (ce G Y S) a (.inl (G.2.1 (Y.2.1 a), Y.2.2 a, .inl g)) b = ce G Y (S.1, S.2.1, va_up S.2.2.1 a g, S.2.2.2) b := by
  by_cases hb : b = a
  · subst hb
    rw [va_up_self]
    rcases hk with hk | hk
    · rw [ce_13 hk, hk]
      show _ = (Sum.inl (_, _, Sum.inl (va_up S.2.2.1 b g b)) : va_E)
      rw [va_up_self]
    · rw [ce_14 hk, hk]
      show _ = (Sum.inl (_, _, Sum.inl (va_up S.2.2.1 b g b)) : va_E)
      rw [va_up_self]
  · rw [va_up_ne _ _ hb]
    have e : va_up S.2.2.1 a g b = S.2.2.1 b := va_up_ne _ _ hb
    unfold ce
    simp only [e]
    rfl
theorem rows_up {a j : Nat} {x : Int32} : upN S.2.2.1 a j x = va_up S.2.2.1 a (upd (S.2.2.1 a) j x) := by
  funext b i
  unfold upN va_up upd
  by_cases hb : b = a
  · subst hb
    by_cases hi : i = j
    · simp [hi]
    · simp [hi]
  · simp [hb]
theorem rw_iast (X : Cx p R s m args meth c own cc nL nf nl A G rt) {r : Option Nat} {i v : Int32} (hdg : decode cc pc = .ok (.iastore, 1)) (h : pA Y 14 r i v S = some S1) (hP : HP A G Y s S H locs)
    (kk : ∀ (H : Heap) (locs : List Loc), HP A G Y s S1 H locs → W p l e R s m args below meth c H locs cells slots Q (F0 m (pc + 1) ls rest)) : W p l e R s m args below meth c H locs cells slots Q (F0 m pc ls (.int v :: .int i :: va_rf r :: rest)) := by
  obtain ⟨a, rfl, hc, hin, rfl⟩ := rc_some2 h
  obtain ⟨⟨hx, hb, hml, hown, hts⟩, hKK, -⟩ := X
  obtain ⟨ha, hk2⟩ := chk_in hc
  obtain ⟨j, hj⟩ := va_pl_get (X := []) (f := ce G Y S) ha
  have hj0 := hj
  rw [ce_14 hk2] at hj
  obtain ⟨hP1, hP2, hP3⟩ := hP
  have hset : (va_pl Y.1 (ce G Y S)).set j (a, .inl (G.2.1 14, Y.2.2 a, .inl (upd (S.2.2.1 a) i.toNatClampNeg v))) = va_pl Y.1 (ce G Y (S.1, S.2.1, upN S.2.2.1 a i.toNatClampNeg v, S.2.2.2)) := by
    rw [rows_up]
    have e := va_pl_set (X := []) hP2 ha hj0 (e := .inl (G.2.1 14, Y.2.2 a, .inl (upd (S.2.2.1 a) i.toNatClampNeg v)))
    exact e.trans (va_pl_congr (fun b => by have := ce_row (G := G) (S := S) (upd (S.2.2.1 a) i.toNatClampNeg v) (Or.inr hk2) b; rw [hk2] at this; exact this))
  refine va_iast hx hb hKK.1 hP1 hP2 hP3 j 1 hj rfl hin hdg (fun H1 locs1 q1 q2 q3 => ?_)
  rw [hset] at q1 q2
  exact kk H1 locs1 ⟨q1, q2, q3⟩
theorem rw_cast (X : Cx p R s m args meth c own cc nL nf nl A G rt) {r : Option Nat} {i v : Int32} (hdg : decode cc pc = .ok (.castore, 1)) (h : pA Y 13 r i (vp_nar .char v) S = some S1) (hP : HP A G Y s S H locs)
    (kk : ∀ (H : Heap) (locs : List Loc), HP A G Y s S1 H locs → W p l e R s m args below meth c H locs cells slots Q (F0 m (pc + 1) ls rest)) : W p l e R s m args below meth c H locs cells slots Q (F0 m pc ls (.int v :: .int i :: va_rf r :: rest)) := by
  obtain ⟨a, rfl, hc, hin, rfl⟩ := rc_some2 h
  obtain ⟨⟨hx, hb, hml, hown, hts⟩, hKK, -⟩ := X
  obtain ⟨ha, hk2⟩ := chk_in hc
  obtain ⟨j, hj⟩ := va_pl_get (X := []) (f := ce G Y S) ha
  have hj0 := hj
  rw [ce_13 hk2] at hj
  obtain ⟨hP1, hP2, hP3⟩ := hP
  have hset : (va_pl Y.1 (ce G Y S)).set j (a, .inl (G.2.1 13, Y.2.2 a, .inl (upd (S.2.2.1 a) i.toNatClampNeg (vp_nar .char v)))) = va_pl Y.1 (ce G Y (S.1, S.2.1, upN S.2.2.1 a i.toNatClampNeg (vp_nar .char v), S.2.2.2)) := by
    rw [rows_up]
    have e := va_pl_set (X := []) hP2 ha hj0 (e := .inl (G.2.1 13, Y.2.2 a, .inl (upd (S.2.2.1 a) i.toNatClampNeg (vp_nar .char v))))
    exact e.trans (va_pl_congr (fun b => by have := ce_row (G := G) (S := S) (upd (S.2.2.1 a) i.toNatClampNeg (vp_nar .char v)) (Or.inl hk2) b; rw [hk2] at this; exact this))
  refine va_cast hx hb hKK.1 hP1 hP2 hP3 j 0 hj rfl hin hdg (fun H1 locs1 q1 q2 q3 => ?_)
  rw [hset] at q1 q2
  exact kk H1 locs1 ⟨q1, q2, q3⟩
theorem rw_ifnull (X : Cx p R s m args meth c own cc nL nf nl A G rt) {r : Option Nat} {off : Int} {tgt : Nat} (hdg : decode cc pc = .ok (.ifnull off, 3)) (ht : (pc : Int) + off = (tgt : Int))
    (kt : r = none → W p l e R s m args below meth c H locs cells slots Q (F0 m tgt ls rest)) (kf : ¬ r = none → W p l e R s m args below meth c H locs cells slots Q (F0 m (pc + 3) ls rest)) : W p l e R s m args below meth c H locs cells slots Q (F0 m pc ls (va_rf r :: rest)) := by
  cases r with
  | none => exact lv_ifnullN X.1.1 X.1.2.1 hdg ht (kt rfl)
  | some a => exact lv_ifnull X.1.1 X.1.2.1 hdg (kf (fun h => by cases h))
theorem rw_ifnonnull (X : Cx p R s m args meth c own cc nL nf nl A G rt) {r : Option Nat} {off : Int} {tgt : Nat} (hdg : decode cc pc = .ok (.ifnonnull off, 3)) (ht : (pc : Int) + off = (tgt : Int))
    (kt : ¬ r = none → W p l e R s m args below meth c H locs cells slots Q (F0 m tgt ls rest)) (kf : r = none → W p l e R s m args below meth c H locs cells slots Q (F0 m (pc + 3) ls rest)) : W p l e R s m args below meth c H locs cells slots Q (F0 m pc ls (va_rf r :: rest)) := by
  cases r with
  | none => exact lv_ifnonnullN X.1.1 X.1.2.1 hdg (kf rfl)
  | some a => exact lv_ifnonnull X.1.1 X.1.2.1 hdg ht (kt (fun h => by cases h))
theorem rw_aload_n (X : Cx p R s m args meth c own cc nL nf nl A G rt) {k : Fin 4} {i : Nat} {r : Option Nat} (hdg : decode cc pc = .ok (.aload_n k, 1)) (hi : (k : Nat) = i) (hl : ls[i]? = some (.val (va_rf r)))
    (kk : W p l e R s m args below meth c H locs cells slots Q (F0 m (pc + 1) ls (va_rf r :: rest))) : W p l e R s m args below meth c H locs cells slots Q (F0 m pc ls rest) := by
  cases r with
  | none => exact lv_aload_nN X.1.1 X.1.2.1 hdg hi hl kk
  | some a => exact lv_aload_n X.1.1 X.1.2.1 hdg hi hl kk
theorem rw_aload (X : Cx p R s m args meth c own cc nL nf nl A G rt) {i : Nat} {r : Option Nat} (hdg : decode cc pc = .ok (.aload i, 2)) (hl : ls[i]? = some (.val (va_rf r)))
    (kk : W p l e R s m args below meth c H locs cells slots Q (F0 m (pc + 2) ls (va_rf r :: rest))) : W p l e R s m args below meth c H locs cells slots Q (F0 m pc ls rest) := by
  cases r with
  | none => exact lv_aloadN X.1.1 X.1.2.1 hdg hl kk
  | some a => exact lv_aload X.1.1 X.1.2.1 hdg hl kk
theorem rw_astore_n (X : Cx p R s m args meth c own cc nL nf nl A G rt) {k : Fin 4} {i nL' : Nat} {r : Option Nat} {lv lv' : List (Nat × Value)} (hdg : decode cc pc = .ok (.astore_n k, 1)) (hi : (k : Nat) = i) (h : lv_has ls nL' lv) (hn : i < nL') (hl : (i, va_rf r) :: lv.filter (fun q => !(q.1 == i) && !(q.1 + 1 == i && q.2.category == 2)) = lv')
    (kk : ∀ ls' : Array Slot, lv_has ls' nL' lv' → W p l e R s m args below meth c H locs cells slots Q (F0 m (pc + 1) ls' rest)) : W p l e R s m args below meth c H locs cells slots Q (F0 m pc ls (va_rf r :: rest)) := by
  cases r with
  | none => exact lv_astore_nN X.1.1 X.1.2.1 hdg hi h hn hl kk
  | some a => exact lv_astore_n X.1.1 X.1.2.1 hdg hi h hn hl kk
theorem rw_astore (X : Cx p R s m args meth c own cc nL nf nl A G rt) {i nL' : Nat} {r : Option Nat} {lv lv' : List (Nat × Value)} (hdg : decode cc pc = .ok (.astore i, 2)) (h : lv_has ls nL' lv) (hn : i < nL') (hl : (i, va_rf r) :: lv.filter (fun q => !(q.1 == i) && !(q.1 + 1 == i && q.2.category == 2)) = lv')
    (kk : ∀ ls' : Array Slot, lv_has ls' nL' lv' → W p l e R s m args below meth c H locs cells slots Q (F0 m (pc + 2) ls' rest)) : W p l e R s m args below meth c H locs cells slots Q (F0 m pc ls (va_rf r :: rest)) := by
  cases r with
  | none => exact lv_astoreN X.1.1 X.1.2.1 hdg h hn hl kk
  | some a => exact lv_astore X.1.1 X.1.2.1 hdg h hn hl kk
theorem rw_iret (X : Cx p R s m args meth c own cc nL nf nl (fun q => q ∈ Y.1) G (some .int)) {v : Int32} (hdg : decode cc pc = .ok (.ireturn, 1)) (hP : HP (fun q => q ∈ Y.1) G Y s S H locs) : W p l e R s m args below meth c H locs 0 0 (MQ below (QI G Y S (some (.int v))) args s 0 0 (fun q => q ∈ Y.1)) (F0 m pc ls [.int v]) := by
  obtain ⟨⟨hx, hb, -⟩, -, -, hlocks, hr, -⟩ := X
  exact W.iret hx hb hr (fun t ht hW => ⟨rfl, by rw [ht]; exact hP.1, hP.2.2.F ht⟩) hP.2.2.2.2 hdg
theorem rw_zret (X : Cx p R s m args meth c own cc nL nf nl (fun q => q ∈ Y.1) G (some .boolean)) {v : Int32} (hv : v = 0 ∨ v = 1) (hdg : decode cc pc = .ok (.ireturn, 1)) (hP : HP (fun q => q ∈ Y.1) G Y s S H locs) : W p l e R s m args below meth c H locs 0 0 (MQ below (QI G Y S (some (.int v))) args s 0 0 (fun q => q ∈ Y.1)) (F0 m pc ls [.int v]) := by
  obtain ⟨⟨hx, hb, -⟩, -, -, hlocks, hr, -⟩ := X
  exact W.zret hx hb hr (by rcases hv with rfl | rfl <;> decide +kernel) (fun t ht hW => ⟨rfl, by rw [ht]; exact hP.1, hP.2.2.F ht⟩) hP.2.2.2.2 hdg
theorem rw_aret (X : Cx p R s m args meth c own cc nL nf nl (fun q => q ∈ Y.1) G (some (.object "BehaviorRunner$Node"))) {r : Option Nat} (hdg : decode cc pc = .ok (.areturn, 1)) (hP : HP (fun q => q ∈ Y.1) G Y s S H locs) : W p l e R s m args below meth c H locs 0 0 (MQ below (QI G Y S (some (va_rf r))) args s 0 0 (fun q => q ∈ Y.1)) (F0 m pc ls [va_rf r]) := by
  obtain ⟨⟨hx, hb, -⟩, -, -, hlocks, hr, -⟩ := X
  exact W.aret hx hb hr (Or.inl ⟨_, rfl⟩) (by cases r <;> first | exact Or.inl rfl | exact Or.inr ⟨_, rfl⟩) (fun t ht hW => ⟨rfl, by rw [ht]; exact hP.1, hP.2.2.F ht⟩) hP.2.2.2.2 hdg
theorem rw_vret (X : Cx p R s m args meth c own cc nL nf nl (fun q => q ∈ Y.1) G none) (hdg : decode cc pc = .ok (.return_, 1)) (hP : HP (fun q => q ∈ Y.1) G Y s S H locs) : W p l e R s m args below meth c H locs 0 0 (MQ below (QI G Y S none) args s 0 0 (fun q => q ∈ Y.1)) (F0 m pc ls []) := by
  obtain ⟨⟨hx, hb, -⟩, -, -, hlocks, hr, -⟩ := X
  exact W.vret hx hb hr (fun t ht hW => ⟨rfl, by rw [ht]; exact hP.1, hP.2.2.F ht⟩) hP.2.2.2.2 hdg
theorem rw_ldc (X : Cx p R s m args meth c own cc nL nf nl A G rt) {index : Nat} {v : Int32} (hc : Cond.constant own index v ∈ TBL) (hdg : decode cc pc = .ok (.ldc index, 2)) (kk : W p l e R s m args below meth c H locs cells slots Q (F0 m (pc + 2) ls (.int v :: rest))) : W p l e R s m args below meth c H locs cells slots Q (F0 m pc ls rest) :=
  lv_ldc X.1.1 X.1.2.1 X.1.2.2.2.1 (X.1.2.2.2.2 _ hc) hdg kk
/-- behind a call -/
theorem rw_after {st0 : List Value} {a : Array Value} {rv : Option Value} (hr : va_Run p l e R s m args below meth c H locs cells slots 0 0 (F0 m pc ls st0) rest (QI G Y S1 rv a) (fun q => q ∈ Y.1)) (hP : HP A G Y s S H locs)
    (kk : ∀ (H1 : Heap) (locs1 : List Loc), HP A G Y s S1 H1 locs1 → W p l e R s m args below meth c H1 locs1 cells slots Q (F0 m (pc + 3) ls (rv.toList ++ rest))) : W p l e R s m args below meth c H locs cells slots Q (F0 m pc ls st0) := by
  intro T hT X
  obtain ⟨v, st₀, t, T', L, h0, X', hL, e1, e2, ⟨ho, hW, hz, hk⟩, st⟩ := hr T hT X
  cases ho
  rw [h0] at hz hk
  obtain ⟨hP1, hP2, hS⟩ := hP
  have hA : ∀ q, q ∈ Y.1 → A q := fun q h => WD_in hP2 h
  obtain ⟨t2, a1, b1⟩ := kk T'.heap (locs ++ L) ⟨by rw [e1]; exact hW, WD_eq hP2, Nat.le_trans hS.1 (by rw [e1]; exact hz), fun q h1 h2 => by rw [e1, hk q (Nat.lt_of_lt_of_le h1 hS.1) (fun z => h2 (hA q z))]; exact hS.2.1 q h1 h2, fun q hq => by
      rcases List.mem_append.mp hq with h | h
      · exact hS.2.2 q h
      · exact hA _ (hL q h)⟩ T' rfl X'
  exact ⟨t2, st t2 a1, b1⟩
theorem preW_of (X : Cx p R s m args meth c own cc nL nf nl A G rt) (hP : HP A G Y s S H locs) {av : List Value} (U : State) (hU : U.heap = H) (hW : s.WarmedH U.vm) : PreW G Y S av av.toArray U := by
  obtain ⟨-, hKK, hST, -⟩ := X
  obtain ⟨hP1, hP2, hS⟩ := hP
  refine ⟨rfl, by rw [hU]; exact hP1, ⟨hP2.1, fun k q hk => ?_⟩, hKK.warm hW, ?_⟩
  · simp only [va_pl, List.getElem?_map] at hk
    cases hb : Y.1[k]? with
    | none => rw [hb] at hk; cases hk
    | some b => rw [hb] at hk; cases hk; exact List.mem_of_getElem? hb
  · rw [hU]
    exact ((hST.kept hS.2.1).narrow (fun q h => WD_in hP2 h)).warm hW
theorem preW_blind {av : List Value} : FrameBlind (PreW G Y S av) := by
  intro a U g mk h
  obtain ⟨h1, h2, h3, h4, h5⟩ := h
  exact ⟨h1, h2, h3, KK.same (s := U) (U := U.calling g mk a) rfl h4, STR.same (s := U) (U := U.calling g mk a) rfl h5⟩
theorem rw_callV (X : Cx p R s m args meth c own cc nL nf nl A G rt) {index cN : Nat} {y : MethodName} {b : ByteArray} {n f lo : Nat} {ret : Option FieldType} {r0 : Option Nat} {u : Unit} {As st0 : List Value} {rv : Option Value}
    (hdg : decode cc pc = .ok (.invokevirtual index, 3)) (hC : CLv own index y b n ret) (hy : PY y As.length) (hM : MM l y b n ret f lo G Y S (va_rf r0 :: As) S1 rv) (hroom : f + 1 ≤ nf ∧ 8 + (n + 11) + lo ≤ nl) (hrc : rcv Y cN r0 = some u) (hcN : (vwCl[cN]?).map (fun q => q.1) = some y.cls) (hP : HP A G Y s S H locs)
    (hst : st0 = As.reverse ++ va_rf r0 :: rest) (hcat : (rest.map fun v => v.category).sum ≤ 8) (hsz : ls.size = nL)
    (kk : ∀ (H1 : Heap) (locs1 : List Loc), HP A G Y s S1 H1 locs1 → W p l e R s m args below meth c H1 locs1 0 0 Q (F0 m (pc + 3) ls (rv.toList ++ rest))) : W p l e R s m args below meth c H locs 0 0 Q (F0 m pc ls st0) := by
  obtain ⟨a, rfl, hc, -⟩ := rc_some hrc
  have hX := X
  obtain ⟨hfix, hKK, hST, hlocks, hrt, hnf, hnl, hz1, hz2⟩ := X
  obtain ⟨c1, c2, c3, c4, c5⟩ := hC
  obtain ⟨ha, hk2⟩ := chk_in hc
  obtain ⟨q, hq, hq2⟩ := Option.map_eq_some_iff.mp hcN
  obtain ⟨h6, h7⟩ := vw_nfl hq
  obtain ⟨i, hi⟩ := va_pl_get (X := []) (f := ce G Y S) ha
  rw [ce_obj h6 hk2] at hi
  have hrecv := va_recv hKK.1 hP.1 hq hi
  rw [hq2] at hrecv
  have hG : GoodIn TBL (wsV own index y.cls y (.code y b n ret :: TBL)) := by
    intro w hw
    have hm : w ∈ TBL := by
      simp only [wsV, List.cons_append, List.nil_append, List.mem_cons] at hw
      rcases hw with rfl | rfl | rfl | rfl | rfl | hw
      · exact c1
      · exact c4
      · exact c5
      · exact c3
      · exact c2
      · exact hw
    exact tbl_good w hm
  refine rw_after (va_runV (As := As) (rest := rest) hfix hM (cwV As.length hfix.2.2.2.2 hG rfl rfl rfl ⟨rfl, hy.1, hy.2.1, hy.2.2⟩ ⟨Nat.le_trans hroom.1 hnf, Nat.le_trans hroom.2 hnl⟩) ⟨preW_blind, hrecv, fun U hU hW => preW_of hX hP U hU hW⟩ rfl rfl hsz hst (lv_room hcat) hdg ⟨hz1, hz2⟩) hP kk
theorem rw_callS (X : Cx p R s m args meth c own cc nL nf nl A G rt) {index : Nat} {y : MethodName} {b : ByteArray} {n f lo : Nat} {ret : Option FieldType} {As st0 : List Value} {rv : Option Value}
    (hdg : decode cc pc = .ok (.invokestatic index, 3)) (hC : CLs own index y b n ret) (hy : PY y As.length) (hM : MM l y b n ret f lo G Y S As S1 rv) (hroom : f + 1 ≤ nf ∧ 8 + (n + 11) + lo ≤ nl) (hP : HP A G Y s S H locs)
    (hst : st0 = As.reverse ++ rest) (hcat : (rest.map fun v => v.category).sum ≤ 8) (hsz : ls.size = nL)
    (kk : ∀ (H1 : Heap) (locs1 : List Loc), HP A G Y s S1 H1 locs1 → W p l e R s m args below meth c H1 locs1 0 0 Q (F0 m (pc + 3) ls (rv.toList ++ rest))) : W p l e R s m args below meth c H locs 0 0 Q (F0 m pc ls st0) := by
  have hX := X
  obtain ⟨hfix, hKK, hST, hlocks, hrt, hnf, hnl, hz1, hz2⟩ := X
  obtain ⟨c1, c2, c3, c4⟩ := hC
  have hts := hfix.2.2.2.2
  have hG : GoodIn TBL (.code y b n ret :: TBL) := by
    intro w hw
    have hm : w ∈ TBL := by
      rcases List.mem_cons.mp hw with rfl | hw
      · exact c2
      · exact hw
    exact tbl_good w hm
  have cb : CallB R s args own index y b n ret (.code y b n ret :: TBL) (RM f lo) 0 0 As.length := callB_of As.length hts hG rfl rfl rfl (hts _ c3) (hts _ c1) ⟨hy.1, hy.2.1, hy.2.2⟩ ⟨Nat.le_trans hroom.1 hnf, Nat.le_trans hroom.2 hnl⟩
  refine rw_after (va_runS (As := As) (rest := rest) hfix hM ⟨cb, hts _ c4⟩ ⟨preW_blind, fun U hU hW => preW_of hX hP U hU hW⟩ rfl rfl hsz hst (lv_room hcat) hdg ⟨hz1, hz2⟩) hP kk
/-- a method's entry -/
theorem mm_of {y : MethodName} {b : ByteArray} {n f lo : Nat} {ret : Option FieldType} {av : List Value} {rv : Option Value} (hy : plainFor y = true) (hlen : (lg_sl av).length ≤ n)
    (body : ∀ p e R s m args below meth c, Cx p R s m args meth c y.cls b n f lo (fun q => q ∈ Y.1) G ret → ∀ H locs ls, HP (fun q => q ∈ Y.1) G Y s S H locs → lv_has ls n (lv_args 0 av) → W p l e R s m args below meth c H locs 0 0 (MQ below (QI G Y S1 rv) args s 0 0 (fun q => q ∈ Y.1)) (F0 m 0 ls [])) : MM l y b n ret f lo G Y S av S1 rv := by
  refine va_MetF (cc := b) (maxL := n) (ret := ret) hy rfl ?_
  intro p e s m args below meth c s₁ B hml hv
  obtain ⟨rfl, hP, hD, hKK, hST⟩ := hv
  have hts := atoms_spec (ws := (.code y b n ret :: TBL)) B.pre
  have hown : s.vm.findClass y.cls = some m.cls := findClass_of_methodNamed B.named
  have hl := lv_entry av (n := n) hlen
  rw [lg_entry_eq]
  exact body p e _ s m _ below meth c ⟨⟨B.exec, B.bytes, hml, hown, fun w hw => hts w (List.mem_cons_of_mem _ hw)⟩, hKK, hST, B.notSynchronized, B.returns, Nat.le_refl _, Nat.le_refl _, Nat.le_refl _, Nat.le_refl _⟩ s.heap [] _ ⟨hP, hD, va_S.rf⟩ hl
end RW
end
section
/-! locals of one-slot values; calls by their kind of answer; the JDK's members -/
theorem ci (x : Int32) : (Value.int x).category = 1 := rfl
theorem cr (r : Option Nat) : (va_rf r).category = 1 := by cases r <;> rfl
theorem ca (a : Nat) : (Value.ref a).category = 1 := rfl
theorem c1n : ∀ v ∈ ([] : List Value), v.category = 1 := fun _ h => absurd h List.not_mem_nil
theorem c1c {v : Value} {vs : List Value} (h : v.category = 1) (hs : ∀ v ∈ vs, v.category = 1) : ∀ w ∈ v :: vs, w.category = 1 := List.forall_mem_cons.mpr ⟨h, hs⟩
theorem catL {vs : List Value} (h : ∀ v ∈ vs, v.category = 1) (hl : vs.length ≤ 8) : (vs.map fun v => v.category).sum ≤ 8 := by
  have key : ∀ vs : List Value, (∀ v ∈ vs, v.category = 1) → (vs.map fun v => v.category).sum = vs.length := by
    intro vs
    induction vs with
    | nil => intro _; rfl
    | cons v vs ih =>
      intro h
      rw [List.map_cons, List.sum_cons, h v List.mem_cons_self, ih (fun w hw => h w (List.mem_cons_of_mem _ hw)), List.length_cons]
      omega
  rw [key vs h]
  exact hl
def LV (ls : Array Slot) (nL : Nat) (l : List (Nat × Value)) : Prop := lv_has ls nL l ∧ ∀ q ∈ l, q.2.category = 1
theorem LV.at {ls : Array Slot} {nL : Nat} {l : List (Nat × Value)} (h : LV ls nL l) (k : Nat) {i : Nat} {v : Value} (hk : l[k]? = some (i, v)) : ls[i]? = some (.val v) := lv_at h.1 k hk
theorem LV.sub {ls : Array Slot} {nL : Nat} {l l' : List (Nat × Value)} (h : LV ls nL l) (ks : List Nat) (hl : lv_pick l ks = l') : LV ls nL l' := by
  refine ⟨lv_sub h.1 ks hl, fun q hq => ?_⟩
  rw [← hl] at hq
  obtain ⟨k, -, hk⟩ := List.mem_filterMap.mp hq
  exact h.2 q (List.mem_of_getElem? hk)
theorem LV.st {ls ls' : Array Slot} {nL i : Nat} {v : Value} {lv lv' : List (Nat × Value)} (h0 : LV ls nL lv) (hv : v.category = 1) (hl : (i, v) :: lv.filter (fun q => !(q.1 == i)) = lv') (h : lv_has ls' nL ((i, v) :: lv.filter (fun q => !(q.1 == i) && !(q.1 + 1 == i && q.2.category == 2)))) : LV ls' nL lv' := by
  subst hl
  have e : lv.filter (fun q => !(q.1 == i) && !(q.1 + 1 == i && q.2.category == 2)) = lv.filter (fun q => !(q.1 == i)) := by
    apply List.filter_congr
    intro q hq
    have : (q.2.category == 2) = false := by rw [h0.2 q hq]; rfl
    rw [this, Bool.and_false, Bool.not_false, Bool.and_true]
  rw [e] at h
  refine ⟨h, fun q hq => ?_⟩
  rcases List.mem_cons.mp hq with rfl | hq
  · exact hv
  · exact h0.2 q (List.mem_filter.mp hq).1
def lvx : Nat → List Value → List (Nat × Value)
  | _, [] => []
  | i, v :: vs => (i, v) :: lvx (i + 1) vs
theorem lvx_eq : ∀ (vs : List Value) (i : Nat), (∀ v ∈ vs, v.category = 1) → lv_args i vs = lvx i vs
  | [], _, _ => rfl
  | v :: vs, i, h => by
    have h1 : ¬ v.category = 2 := by rw [h v List.mem_cons_self]; decide
    simp only [lv_args, h1, if_false, lvx]
    rw [lvx_eq vs (i + 1) (fun w hw => h w (List.mem_cons_of_mem _ hw))]
theorem lvx_cat : ∀ (vs : List Value) (i : Nat), (∀ v ∈ vs, v.category = 1) → ∀ q ∈ lvx i vs, q.2.category = 1
  | [], _, _ => fun q h => absurd h List.not_mem_nil
  | v :: vs, i, h => fun q hq => by
    rcases List.mem_cons.mp hq with rfl | hq
    · exact h v List.mem_cons_self
    · exact lvx_cat vs (i + 1) (fun w hw => h w (List.mem_cons_of_mem _ hw)) q hq
theorem lg_len : ∀ (vs : List Value), (∀ v ∈ vs, v.category = 1) → (lg_sl vs).length = vs.length
  | [], _ => rfl
  | v :: vs, h => by
    have h1 : ¬ v.category = 2 := by rw [h v List.mem_cons_self]; decide
    have e : lg_sl (v :: vs) = [Slot.val v] ++ lg_sl vs := by simp [lg_sl, h1]
    rw [e, List.length_append, lg_len vs (fun w hw => h w (List.mem_cons_of_mem _ hw)), List.length_cons]
    simp; omega
def jmax (x y : Int32) : Int32 := if x < y then y else x
def jmin (x y : Int32) : Int32 := if y < x then y else x
/-- a String constant's length, its char, where a char stands in it -/
def sLen (i : Nat) : Int32 := nI (lenJS.getD i 0)
def sCh (i : Nat) (k : Int32) : Option Int32 := if decide (i < 3) && inr k (lenJS.getD i 0) then some ((bytJS.getD i []).getD k.toNatClampNeg 0) else none
def sIxF (c : Int32) : List Int32 → Nat → Int32
  | [], _ => -1
  | b :: l, k => if b = c then nI k else sIxF c l (k + 1)
def sIx (i : Nat) (c : Int32) : Option Int32 := if i < 3 then some (sIxF c (bytJS.getD i []) 0) else none
def FU : Nat := 2000
theorem tb_max : Cond.static Lib.Math.max.name ∈ TBL ∧ Cond.initialized "java/lang/Math" ∈ TBL ∧ Cond.code Lib.Math.max.name Lib.Math.max.code 2 (some .int) ∈ TBL := ⟨tb_of (tb2 205 rfl) rfl, tb_of (tb1 15 rfl) rfl, tb_of (tb2 206 (by decide +kernel)) rfl⟩
theorem tb_min : Cond.static Lib.Math.min.name ∈ TBL ∧ Cond.initialized "java/lang/Math" ∈ TBL ∧ Cond.code Lib.Math.min.name Lib.Math.min.code 2 (some .int) ∈ TBL := ⟨tb_of (tb2 208 rfl) rfl, tb_of (tb1 15 rfl) rfl, tb_of (tb2 209 (by decide +kernel)) rfl⟩
theorem tb_copy : Cond.native arraycopyName ∈ TBL ∧ Cond.static arraycopyName ∈ TBL ∧ Cond.initialized "java/lang/System" ∈ TBL := ⟨tb_of (tb3 235 rfl) rfl, tb_of (tb3 234 rfl) rfl, tb_of (tb1 19 rfl) rfl⟩
theorem mlX0_53 : Cond.methodLink RX0 53 Lib.Math.min.name ∈ TBL := tb_of (tb3 153 rfl) rfl
theorem mlX0_59 : Cond.methodLink RX0 59 Lib.Math.max.name ∈ TBL := tb_of (tb3 154 rfl) rfl
theorem mlX2_64 : Cond.methodLink RX2 64 Lib.Math.min.name ∈ TBL := tb_of (tb4 38 rfl) rfl
theorem mlX0_15 : Cond.methodLink RX0 15 arraycopyName ∈ TBL := tb_of (tb3 233 rfl) rfl
theorem mlX2_47 : Cond.methodLink RX2 47 arraycopyName ∈ TBL := tb_of (tb4 0 rfl) rfl
theorem kX11_105 : Cond.constant RX11 105 1000000 ∈ TBL := tb_of (tb3 215 rfl) rfl
section RV
variable {p : Program} {l : Launch} {e : Env} {R : Room} {s : State} {m : MethodId} {args : Array Value} {below : List Frame} {meth : Method} {c : Code} {H : Heap} {locs : List Loc} {cells slots : Nat} {Q : State → Prop}
variable {own : String} {cc : ByteArray} {nL nf nl : Nat} {A : Nat → Prop} {G : GG} {rt : Option FieldType} {Y : LY} {S S1 : HS} {pc : Nat} {ls : Array Slot} {rest : List Value}
theorem rv_istore_n (X : Cx p R s m args meth c own cc nL nf nl A G rt) {k : Fin 4} {i nL' : Nat} {x : Int32} {lv lv' : List (Nat × Value)} (hdg : decode cc pc = .ok (.istore_n k, 1)) (hi : (k : Nat) = i) (h : LV ls nL' lv) (hn : i < nL') (hl : (i, Value.int x) :: lv.filter (fun q => !(q.1 == i)) = lv')
    (kk : ∀ ls' : Array Slot, LV ls' nL' lv' → W p l e R s m args below meth c H locs cells slots Q (F0 m (pc + 1) ls' rest)) : W p l e R s m args below meth c H locs cells slots Q (F0 m pc ls (.int x :: rest)) :=
  lv_istore_n X.1.1 X.1.2.1 hdg hi h.1 hn rfl (fun ls' h' => kk ls' (h.st rfl hl h'))
theorem rv_istore (X : Cx p R s m args meth c own cc nL nf nl A G rt) {i nL' : Nat} {x : Int32} {lv lv' : List (Nat × Value)} (hdg : decode cc pc = .ok (.istore i, 2)) (h : LV ls nL' lv) (hn : i < nL') (hl : (i, Value.int x) :: lv.filter (fun q => !(q.1 == i)) = lv')
    (kk : ∀ ls' : Array Slot, LV ls' nL' lv' → W p l e R s m args below meth c H locs cells slots Q (F0 m (pc + 2) ls' rest)) : W p l e R s m args below meth c H locs cells slots Q (F0 m pc ls (.int x :: rest)) :=
  lv_istore X.1.1 X.1.2.1 hdg h.1 hn rfl (fun ls' h' => kk ls' (h.st rfl hl h'))
theorem rv_astore_n (X : Cx p R s m args meth c own cc nL nf nl A G rt) {k : Fin 4} {i nL' : Nat} {r : Option Nat} {lv lv' : List (Nat × Value)} (hdg : decode cc pc = .ok (.astore_n k, 1)) (hi : (k : Nat) = i) (h : LV ls nL' lv) (hn : i < nL') (hl : (i, va_rf r) :: lv.filter (fun q => !(q.1 == i)) = lv')
    (kk : ∀ ls' : Array Slot, LV ls' nL' lv' → W p l e R s m args below meth c H locs cells slots Q (F0 m (pc + 1) ls' rest)) : W p l e R s m args below meth c H locs cells slots Q (F0 m pc ls (va_rf r :: rest)) :=
  rw_astore_n X hdg hi h.1 hn rfl (fun ls' h' => kk ls' (h.st (cr r) hl h'))
theorem rv_astore (X : Cx p R s m args meth c own cc nL nf nl A G rt) {i nL' : Nat} {r : Option Nat} {lv lv' : List (Nat × Value)} (hdg : decode cc pc = .ok (.astore i, 2)) (h : LV ls nL' lv) (hn : i < nL') (hl : (i, va_rf r) :: lv.filter (fun q => !(q.1 == i)) = lv')
    (kk : ∀ ls' : Array Slot, LV ls' nL' lv' → W p l e R s m args below meth c H locs cells slots Q (F0 m (pc + 2) ls' rest)) : W p l e R s m args below meth c H locs cells slots Q (F0 m pc ls (va_rf r :: rest)) :=
  rw_astore X hdg h.1 hn rfl (fun ls' h' => kk ls' (h.st (cr r) hl h'))
theorem rv_iinc (X : Cx p R s m args meth c own cc nL nf nl A G rt) {i nL' k : Nat} {n : Int} {x d : Int32} {lv lv' : List (Nat × Value)} (hdg : decode cc pc = .ok (.iinc i n, 3)) (h : LV ls nL' lv) (hk : lv[k]? = some (i, .int x)) (hv : Int32.ofInt n = d) (hn : i < nL') (hl : (i, Value.int (x + d)) :: lv.filter (fun q => !(q.1 == i)) = lv')
    (kk : ∀ ls' : Array Slot, LV ls' nL' lv' → W p l e R s m args below meth c H locs cells slots Q (F0 m (pc + 3) ls' rest)) : W p l e R s m args below meth c H locs cells slots Q (F0 m pc ls rest) :=
  lv_iinc X.1.1 X.1.2.1 hdg h.1 hk (by rw [hv]) hn rfl (fun ls' h' => kk ls' (h.st rfl hl h'))
theorem rv_max (X : Cx p R s m args meth c own cc nL nf nl A G rt) {index : Nat} {x y : Int32} (hl : Cond.methodLink own index Lib.Math.max.name ∈ TBL) (hr : 1 ≤ nf ∧ rest.length + 13 ≤ nl) (hc : ∀ v ∈ rest, v.category = 1) (hsz : ls.size = nL) (hdg : decode cc pc = .ok (.invokestatic index, 3))
    (kk : W p l e R s m args below meth c H locs 0 0 Q (F0 m (pc + 3) ls (.int (jmax x y) :: rest))) : W p l e R s m args below meth c H locs 0 0 Q (F0 m pc ls (.int y :: .int x :: rest)) := by
  obtain ⟨⟨hx, hb, hml, hown, hts⟩, -, -, -, -, hnf, hnl, hz1, hz2⟩ := X
  have hsum : (rest.map fun v => v.category).sum + 13 ≤ R.locals := by
    have key : ∀ vs : List Value, (∀ v ∈ vs, v.category = 1) → (vs.map fun v => v.category).sum = vs.length := by
      intro vs
      induction vs with
      | nil => intro _; rfl
      | cons v vs ih =>
        intro h
        rw [List.map_cons, List.sum_cons, h v List.mem_cons_self, ih (fun w hw => h w (List.mem_cons_of_mem _ hw)), List.length_cons]
        omega
    rw [key rest hc]
    omega
  exact va_mmax hx hb (hml.trans hsz.symm) hown (hts _ hl) (hts _ tb_max.1) (hts _ tb_max.2.1) (hts _ tb_max.2.2) (by omega) hsum hz1 hz2 hdg kk
theorem rv_min (X : Cx p R s m args meth c own cc nL nf nl A G rt) {index : Nat} {x y : Int32} (hl : Cond.methodLink own index Lib.Math.min.name ∈ TBL) (hr : 1 ≤ nf ∧ rest.length + 13 ≤ nl) (hc : ∀ v ∈ rest, v.category = 1) (hsz : ls.size = nL) (hdg : decode cc pc = .ok (.invokestatic index, 3))
    (kk : W p l e R s m args below meth c H locs 0 0 Q (F0 m (pc + 3) ls (.int (jmin x y) :: rest))) : W p l e R s m args below meth c H locs 0 0 Q (F0 m pc ls (.int y :: .int x :: rest)) := by
  obtain ⟨⟨hx, hb, hml, hown, hts⟩, -, -, -, -, hnf, hnl, hz1, hz2⟩ := X
  have hsum : (rest.map fun v => v.category).sum + 13 ≤ R.locals := by
    have key : ∀ vs : List Value, (∀ v ∈ vs, v.category = 1) → (vs.map fun v => v.category).sum = vs.length := by
      intro vs
      induction vs with
      | nil => intro _; rfl
      | cons v vs ih =>
        intro h
        rw [List.map_cons, List.sum_cons, h v List.mem_cons_self, ih (fun w hw => h w (List.mem_cons_of_mem _ hw)), List.length_cons]
        omega
    rw [key rest hc]
    omega
  exact va_mmin hx hb (hml.trans hsz.symm) hown (hts _ hl) (hts _ tb_min.1) (hts _ tb_min.2.1) (hts _ tb_min.2.2) (by omega) hsum hz1 hz2 hdg kk
theorem ce_row2 {a : Nat} (g : Nat → Int32) (hk : Y.2.1 a = 14) (b : Nat) : va_up (ce G Y S) a (.inl (G.2.1 14, Y.2.2 a, .inl g)) b = ce G Y (S.1, S.2.1, va_up S.2.2.1 a g, S.2.2.2) b := by
  have := ce_row (G := G) (S := S) g (Or.inr hk) b
  rw [hk] at this
  exact this
theorem rv_copy (X : Cx p R s m args meth c own cc nL nf nl A G rt) {index : Nat} {r0 r1 : Option Nat} {sp dp n : Int32} (hlk : Cond.methodLink own index arraycopyName ∈ TBL) (h : cpA Y r0 sp r1 dp n S = some S1) (hr : 1 ≤ nf ∧ nativeFrameWords "java/lang/System" "arraycopy" 5 + 11 ≤ nl) (hsz : ls.size = nL) (hdg : decode cc pc = .ok (.invokestatic index, 3)) (hP : HP A G Y s S H locs)
    (kk : ∀ (H : Heap) (locs : List Loc), HP A G Y s S1 H locs → W p l e R s m args below meth c H locs cells slots Q (F0 m (pc + 3) ls [])) : W p l e R s m args below meth c H locs cells slots Q (F0 m pc ls (.int n :: .int dp :: va_rf r1 :: .int sp :: va_rf r0 :: [])) := by
  obtain ⟨⟨hx, hb, hml, hown, hts⟩, hKK, -, -, -, hnf, hnl, hz1, hz2⟩ := X
  unfold cpA at h
  cases r0 with
  | none => cases h
  | some a =>
    cases r1 with
    | none => cases h
    | some b =>
      have h' : (if (chk Y 14 a && chk Y 14 b) = true ∧ ¬ sp < 0 ∧ ¬ dp < 0 ∧ ¬ n < 0 ∧ sp.toNatClampNeg + n.toNatClampNeg ≤ Y.2.2 a ∧ dp.toNatClampNeg + n.toNatClampNeg ≤ Y.2.2 b then some (S.1, S.2.1, va_up S.2.2.1 b (va_cpy (S.2.2.1 a) (S.2.2.1 b) sp.toNatClampNeg dp.toNatClampNeg n.toNatClampNeg), S.2.2.2) else none) = some S1 := h
      by_cases hc : (chk Y 14 a && chk Y 14 b) = true ∧ ¬ sp < 0 ∧ ¬ dp < 0 ∧ ¬ n < 0 ∧ sp.toNatClampNeg + n.toNatClampNeg ≤ Y.2.2 a ∧ dp.toNatClampNeg + n.toNatClampNeg ≤ Y.2.2 b
      · rw [if_pos hc] at h'
        cases h'
        obtain ⟨g0, g1, g2, g3, g4, g5⟩ := hc
        rw [Bool.and_eq_true] at g0
        obtain ⟨ha, hka⟩ := chk_in g0.1
        obtain ⟨hb2, hkb⟩ := chk_in g0.2
        obtain ⟨i, hi⟩ := va_pl_get (X := []) (f := ce G Y S) ha
        obtain ⟨j, hj⟩ := va_pl_get (X := []) (f := ce G Y S) hb2
        have hj0 := hj
        rw [ce_14 hka] at hi
        rw [ce_14 hkb] at hj
        obtain ⟨hP1, hP2, hP3⟩ := hP
        have hset : (va_pl Y.1 (ce G Y S)).set j (b, .inl (G.2.1 14, Y.2.2 b, .inl (va_cpy (S.2.2.1 a) (S.2.2.1 b) sp.toNatClampNeg dp.toNatClampNeg n.toNatClampNeg))) = va_pl Y.1 (ce G Y (S.1, S.2.1, va_up S.2.2.1 b (va_cpy (S.2.2.1 a) (S.2.2.1 b) sp.toNatClampNeg dp.toNatClampNeg n.toNatClampNeg), S.2.2.2)) := by
          have e := va_pl_set (X := []) hP2 hb2 hj0 (e := .inl (G.2.1 14, Y.2.2 b, .inl (va_cpy (S.2.2.1 a) (S.2.2.1 b) sp.toNatClampNeg dp.toNatClampNeg n.toNatClampNeg)))
          exact e.trans (va_pl_congr (fun q => ce_row2 _ hkb q))
        refine va_copyi (ty := .int) hx hb (hml.trans hsz.symm) hown (hts _ hlk) (hts _ tb_copy.1) (hts _ tb_copy.2.1) (hts _ tb_copy.2.2) hKK.1 hP1 hP2 hP3 i j 1 1 hi hj rfl rfl rfl g1 g2 g3 g4 g5 (fun _ _ => rfl) (by omega) (by show 0 + _ ≤ _; omega) hdg (fun H1 locs1 q1 q2 q3 => ?_)
        rw [hset] at q1 q2
        exact kk H1 locs1 ⟨q1, q2, q3⟩
      · rw [if_neg hc] at h'
        cases h'
theorem tsw {x : Int32} {k : Int} {v : Int32} (hv : v.toInt = k) (h : ¬ x = v) : x.toInt ≠ k := fun h1 => h (Int32.toInt_inj.mp (h1.trans hv.symm))
theorem mm_of2 {y : MethodName} {b : ByteArray} {n f lo : Nat} {ret : Option FieldType} {av : List Value} {rv : Option Value} (hy : plainFor y = true) (hlen : av.length ≤ n) (hc : ∀ v ∈ av, v.category = 1)
    (body : ∀ p e R s m args below meth c, Cx p R s m args meth c y.cls b n f lo (fun q => q ∈ Y.1) G ret → ∀ H locs ls, HP (fun q => q ∈ Y.1) G Y s S H locs → LV ls n (lvx 0 av) → W p l e R s m args below meth c H locs 0 0 (MQ below (QI G Y S1 rv) args s 0 0 (fun q => q ∈ Y.1)) (F0 m 0 ls [])) : MM l y b n ret f lo G Y S av S1 rv :=
  mm_of hy (by rw [lg_len av hc]; exact hlen) (fun p e R s m args below meth c X H locs ls hP hl => body p e R s m args below meth c X H locs ls hP ⟨by rw [lvx_eq av 0 hc] at hl; exact hl, lvx_cat av 0 hc⟩)
end RV
end
section
/-! calls by their kind of answer; rows of the String constants -/
theorem zr_some {v w : Int32} (h : zr v = some w) : (w = 0 ∨ w = 1) ∧ v = w := by
  unfold zr at h
  by_cases hv : v = 0 ∨ v = 1
  · rw [if_pos hv] at h
    cases h
    exact ⟨hv, rfl⟩
  · rw [if_neg hv] at h
    cases h
section RC
variable {p : Program} {l : Launch} {e : Env} {R : Room} {s : State} {m : MethodId} {args : Array Value} {below : List Frame} {meth : Method} {c : Code} {H : Heap} {locs : List Loc} {Q : State → Prop}
variable {own : String} {cc : ByteArray} {nL nf nl : Nat} {A : Nat → Prop} {G : GG} {rt : Option FieldType} {Y : LY} {S S1 : HS} {pc : Nat} {ls : Array Slot} {rest : List Value}
theorem rw_callVi (X : Cx p R s m args meth c own cc nL nf nl A G rt) {index cN : Nat} {y : MethodName} {b : ByteArray} {n f lo : Nat} {ret : Option FieldType} {r0 : Option Nat} {u : Unit} {As st0 : List Value} {v : Int32}
    (hdg : decode cc pc = .ok (.invokevirtual index, 3)) (hC : CLv own index y b n ret) (hy : PY y As.length) (hM : MM l y b n ret f lo G Y S (va_rf r0 :: As) S1 (some (.int v))) (hroom : f + 1 ≤ nf ∧ 8 + (n + 11) + lo ≤ nl) (hrc : rcv Y cN r0 = some u) (hcN : (vwCl[cN]?).map (fun q => q.1) = some y.cls) (hP : HP A G Y s S H locs)
    (hst : st0 = As.reverse ++ va_rf r0 :: rest) (hcat : (rest.map fun v => v.category).sum ≤ 8) (hsz : ls.size = nL)
    (kk : ∀ (H1 : Heap) (locs1 : List Loc), HP A G Y s S1 H1 locs1 → W p l e R s m args below meth c H1 locs1 0 0 Q (F0 m (pc + 3) ls (.int v :: rest))) : W p l e R s m args below meth c H locs 0 0 Q (F0 m pc ls st0) :=
  rw_callV X hdg hC hy hM hroom hrc hcN hP hst hcat hsz kk
theorem rw_callVr (X : Cx p R s m args meth c own cc nL nf nl A G rt) {index cN : Nat} {y : MethodName} {b : ByteArray} {n f lo : Nat} {ret : Option FieldType} {r0 : Option Nat} {u : Unit} {As st0 : List Value} {v : Option Nat}
    (hdg : decode cc pc = .ok (.invokevirtual index, 3)) (hC : CLv own index y b n ret) (hy : PY y As.length) (hM : MM l y b n ret f lo G Y S (va_rf r0 :: As) S1 (some (va_rf v))) (hroom : f + 1 ≤ nf ∧ 8 + (n + 11) + lo ≤ nl) (hrc : rcv Y cN r0 = some u) (hcN : (vwCl[cN]?).map (fun q => q.1) = some y.cls) (hP : HP A G Y s S H locs)
    (hst : st0 = As.reverse ++ va_rf r0 :: rest) (hcat : (rest.map fun v => v.category).sum ≤ 8) (hsz : ls.size = nL)
    (kk : ∀ (H1 : Heap) (locs1 : List Loc), HP A G Y s S1 H1 locs1 → W p l e R s m args below meth c H1 locs1 0 0 Q (F0 m (pc + 3) ls (va_rf v :: rest))) : W p l e R s m args below meth c H locs 0 0 Q (F0 m pc ls st0) :=
  rw_callV X hdg hC hy hM hroom hrc hcN hP hst hcat hsz kk
theorem rw_callVv (X : Cx p R s m args meth c own cc nL nf nl A G rt) {index cN : Nat} {y : MethodName} {b : ByteArray} {n f lo : Nat} {ret : Option FieldType} {r0 : Option Nat} {u : Unit} {As st0 : List Value}
    (hdg : decode cc pc = .ok (.invokevirtual index, 3)) (hC : CLv own index y b n ret) (hy : PY y As.length) (hM : MM l y b n ret f lo G Y S (va_rf r0 :: As) S1 none) (hroom : f + 1 ≤ nf ∧ 8 + (n + 11) + lo ≤ nl) (hrc : rcv Y cN r0 = some u) (hcN : (vwCl[cN]?).map (fun q => q.1) = some y.cls) (hP : HP A G Y s S H locs)
    (hst : st0 = As.reverse ++ va_rf r0 :: rest) (hcat : (rest.map fun v => v.category).sum ≤ 8) (hsz : ls.size = nL)
    (kk : ∀ (H1 : Heap) (locs1 : List Loc), HP A G Y s S1 H1 locs1 → W p l e R s m args below meth c H1 locs1 0 0 Q (F0 m (pc + 3) ls rest)) : W p l e R s m args below meth c H locs 0 0 Q (F0 m pc ls st0) :=
  rw_callV X hdg hC hy hM hroom hrc hcN hP hst hcat hsz kk
theorem rw_callSi (X : Cx p R s m args meth c own cc nL nf nl A G rt) {index : Nat} {y : MethodName} {b : ByteArray} {n f lo : Nat} {ret : Option FieldType} {As st0 : List Value} {v : Int32}
    (hdg : decode cc pc = .ok (.invokestatic index, 3)) (hC : CLs own index y b n ret) (hy : PY y As.length) (hM : MM l y b n ret f lo G Y S As S1 (some (.int v))) (hroom : f + 1 ≤ nf ∧ 8 + (n + 11) + lo ≤ nl) (hP : HP A G Y s S H locs)
    (hst : st0 = As.reverse ++ rest) (hcat : (rest.map fun v => v.category).sum ≤ 8) (hsz : ls.size = nL)
    (kk : ∀ (H1 : Heap) (locs1 : List Loc), HP A G Y s S1 H1 locs1 → W p l e R s m args below meth c H1 locs1 0 0 Q (F0 m (pc + 3) ls (.int v :: rest))) : W p l e R s m args below meth c H locs 0 0 Q (F0 m pc ls st0) :=
  rw_callS X hdg hC hy hM hroom hP hst hcat hsz kk
theorem rw_callSv (X : Cx p R s m args meth c own cc nL nf nl A G rt) {index : Nat} {y : MethodName} {b : ByteArray} {n f lo : Nat} {ret : Option FieldType} {As st0 : List Value}
    (hdg : decode cc pc = .ok (.invokestatic index, 3)) (hC : CLs own index y b n ret) (hy : PY y As.length) (hM : MM l y b n ret f lo G Y S As S1 none) (hroom : f + 1 ≤ nf ∧ 8 + (n + 11) + lo ≤ nl) (hP : HP A G Y s S H locs)
    (hst : st0 = As.reverse ++ rest) (hcat : (rest.map fun v => v.category).sum ≤ 8) (hsz : ls.size = nL)
    (kk : ∀ (H1 : Heap) (locs1 : List Loc), HP A G Y s S1 H1 locs1 → W p l e R s m args below meth c H1 locs1 0 0 Q (F0 m (pc + 3) ls rest)) : W p l e R s m args below meth c H locs 0 0 Q (F0 m pc ls st0) :=
  rw_callS X hdg hC hy hM hroom hP hst hcat hsz kk
end RC
end
section
/-! the JDK members on String constants -/
theorem dJ0_isLatin1_aae02_0 : decode cJ0_isLatin1_aae02 0 = .ok (.getstatic 38, 3) := by decide +kernel
theorem dJ0_isLatin1_aae02_3 : decode cJ0_isLatin1_aae02 3 = .ok (.ifCond .eq 14, 3) := by decide +kernel
theorem dJ0_isLatin1_aae02_6 : decode cJ0_isLatin1_aae02 6 = .ok (.aload_n 0, 1) := by decide +kernel
theorem dJ0_isLatin1_aae02_7 : decode cJ0_isLatin1_aae02 7 = .ok (.getfield 15, 3) := by decide +kernel
theorem dJ0_isLatin1_aae02_10 : decode cJ0_isLatin1_aae02 10 = .ok (.ifCond .ne 7, 3) := by decide +kernel
theorem dJ0_isLatin1_aae02_13 : decode cJ0_isLatin1_aae02 13 = .ok (.iconst 1, 1) := by decide +kernel
theorem dJ0_isLatin1_aae02_14 : decode cJ0_isLatin1_aae02 14 = .ok (.goto 4, 3) := by decide +kernel
theorem dJ0_isLatin1_aae02_17 : decode cJ0_isLatin1_aae02 17 = .ok (.iconst 0, 1) := by decide +kernel
theorem dJ0_isLatin1_aae02_18 : decode cJ0_isLatin1_aae02 18 = .ok (.ireturn, 1) := by decide +kernel
theorem pyJ0_isLatin1_aae02 : PY yJ0_isLatin1_aae02 0 := ⟨by decide +kernel, by decide +kernel, by decide +kernel⟩
theorem dJ0_coder_7d493_0 : decode cJ0_coder_7d493 0 = .ok (.getstatic 38, 3) := by decide +kernel
theorem dJ0_coder_7d493_3 : decode cJ0_coder_7d493 3 = .ok (.ifCond .eq 10, 3) := by decide +kernel
theorem dJ0_coder_7d493_6 : decode cJ0_coder_7d493 6 = .ok (.aload_n 0, 1) := by decide +kernel
theorem dJ0_coder_7d493_7 : decode cJ0_coder_7d493 7 = .ok (.getfield 15, 3) := by decide +kernel
theorem dJ0_coder_7d493_10 : decode cJ0_coder_7d493 10 = .ok (.goto 4, 3) := by decide +kernel
theorem dJ0_coder_7d493_13 : decode cJ0_coder_7d493 13 = .ok (.iconst 1, 1) := by decide +kernel
theorem dJ0_coder_7d493_14 : decode cJ0_coder_7d493 14 = .ok (.ireturn, 1) := by decide +kernel
theorem pyJ0_coder_7d493 : PY yJ0_coder_7d493 0 := ⟨by decide +kernel, by decide +kernel, by decide +kernel⟩
theorem dJ0_length_8abf5_0 : decode cJ0_length_8abf5 0 = .ok (.aload_n 0, 1) := by decide +kernel
theorem dJ0_length_8abf5_1 : decode cJ0_length_8abf5 1 = .ok (.getfield 9, 3) := by decide +kernel
theorem dJ0_length_8abf5_4 : decode cJ0_length_8abf5 4 = .ok (.arraylength, 1) := by decide +kernel
theorem dJ0_length_8abf5_5 : decode cJ0_length_8abf5 5 = .ok (.aload_n 0, 1) := by decide +kernel
theorem dJ0_length_8abf5_6 : decode cJ0_length_8abf5 6 = .ok (.invokevirtual 335, 3) := by decide +kernel
theorem dJ0_length_8abf5_9 : decode cJ0_length_8abf5 9 = .ok (.ishr, 1) := by decide +kernel
theorem dJ0_length_8abf5_10 : decode cJ0_length_8abf5 10 = .ok (.ireturn, 1) := by decide +kernel
theorem pyJ0_length_8abf5 : PY yJ0_length_8abf5 0 := ⟨by decide +kernel, by decide +kernel, by decide +kernel⟩
theorem dJ0_charAt_5068e_0 : decode cJ0_charAt_5068e 0 = .ok (.aload_n 0, 1) := by decide +kernel
theorem dJ0_charAt_5068e_1 : decode cJ0_charAt_5068e 1 = .ok (.invokevirtual 492, 3) := by decide +kernel
theorem dJ0_charAt_5068e_4 : decode cJ0_charAt_5068e 4 = .ok (.ifCond .eq 12, 3) := by decide +kernel
theorem dJ0_charAt_5068e_7 : decode cJ0_charAt_5068e 7 = .ok (.aload_n 0, 1) := by decide +kernel
theorem dJ0_charAt_5068e_8 : decode cJ0_charAt_5068e 8 = .ok (.getfield 9, 3) := by decide +kernel
theorem dJ0_charAt_5068e_11 : decode cJ0_charAt_5068e 11 = .ok (.iload_n 1, 1) := by decide +kernel
theorem dJ0_charAt_5068e_12 : decode cJ0_charAt_5068e 12 = .ok (.invokestatic 495, 3) := by decide +kernel
theorem dJ0_charAt_5068e_15 : decode cJ0_charAt_5068e 15 = .ok (.ireturn, 1) := by decide +kernel
theorem dJ0_charAt_5068e_16 : decode cJ0_charAt_5068e 16 = .ok (.aload_n 0, 1) := by decide +kernel
theorem dJ0_charAt_5068e_17 : decode cJ0_charAt_5068e 17 = .ok (.getfield 9, 3) := by decide +kernel
theorem dJ0_charAt_5068e_20 : decode cJ0_charAt_5068e 20 = .ok (.iload_n 1, 1) := by decide +kernel
theorem dJ0_charAt_5068e_21 : decode cJ0_charAt_5068e 21 = .ok (.invokestatic 498, 3) := by decide +kernel
theorem dJ0_charAt_5068e_24 : decode cJ0_charAt_5068e 24 = .ok (.ireturn, 1) := by decide +kernel
theorem pyJ0_charAt_5068e : PY yJ0_charAt_5068e 1 := ⟨by decide +kernel, by decide +kernel, by decide +kernel⟩
theorem dJ0_checkIndex_df160_0 : decode cJ0_checkIndex_df160 0 = .ok (.iload_n 0, 1) := by decide +kernel
theorem dJ0_checkIndex_df160_1 : decode cJ0_checkIndex_df160 1 = .ok (.iload_n 1, 1) := by decide +kernel
theorem dJ0_checkIndex_df160_2 : decode cJ0_checkIndex_df160 2 = .ok (.getstatic 1053, 3) := by decide +kernel
theorem dJ0_checkIndex_df160_5 : decode cJ0_checkIndex_df160 5 = .ok (.invokestatic 1059, 3) := by decide +kernel
theorem dJ0_checkIndex_df160_8 : decode cJ0_checkIndex_df160 8 = .ok (.pop, 1) := by decide +kernel
theorem dJ0_checkIndex_df160_9 : decode cJ0_checkIndex_df160 9 = .ok (.return_, 1) := by decide +kernel
theorem pyJ0_checkIndex_df160 : PY yJ0_checkIndex_df160 2 := ⟨by decide +kernel, by decide +kernel, by decide +kernel⟩
theorem dJ3_checkIndex_8e157_0 : decode cJ3_checkIndex_8e157 0 = .ok (.iload_n 0, 1) := by decide +kernel
theorem dJ3_checkIndex_8e157_1 : decode cJ3_checkIndex_8e157 1 = .ok (.ifCond .lt 8, 3) := by decide +kernel
theorem dJ3_checkIndex_8e157_4 : decode cJ3_checkIndex_8e157 4 = .ok (.iload_n 0, 1) := by decide +kernel
theorem dJ3_checkIndex_8e157_5 : decode cJ3_checkIndex_8e157 5 = .ok (.iload_n 1, 1) := by decide +kernel
theorem dJ3_checkIndex_8e157_6 : decode cJ3_checkIndex_8e157 6 = .ok (.if_icmp .lt 10, 3) := by decide +kernel
theorem dJ3_checkIndex_8e157_9 : decode cJ3_checkIndex_8e157 9 = .ok (.aload_n 2, 1) := by decide +kernel
theorem dJ3_checkIndex_8e157_10 : decode cJ3_checkIndex_8e157 10 = .ok (.iload_n 0, 1) := by decide +kernel
theorem dJ3_checkIndex_8e157_11 : decode cJ3_checkIndex_8e157 11 = .ok (.iload_n 1, 1) := by decide +kernel
theorem dJ3_checkIndex_8e157_12 : decode cJ3_checkIndex_8e157 12 = .ok (.invokestatic 95, 3) := by decide +kernel
theorem dJ3_checkIndex_8e157_15 : decode cJ3_checkIndex_8e157 15 = .ok (.athrow, 1) := by decide +kernel
theorem dJ3_checkIndex_8e157_16 : decode cJ3_checkIndex_8e157 16 = .ok (.iload_n 0, 1) := by decide +kernel
theorem dJ3_checkIndex_8e157_17 : decode cJ3_checkIndex_8e157 17 = .ok (.ireturn, 1) := by decide +kernel
theorem pyJ3_checkIndex_8e157 : PY yJ3_checkIndex_8e157 3 := ⟨by decide +kernel, by decide +kernel, by decide +kernel⟩
theorem dJ1_charAt_3b067_0 : decode cJ1_charAt_3b067 0 = .ok (.iload_n 1, 1) := by decide +kernel
theorem dJ1_charAt_3b067_1 : decode cJ1_charAt_3b067 1 = .ok (.aload_n 0, 1) := by decide +kernel
theorem dJ1_charAt_3b067_2 : decode cJ1_charAt_3b067 2 = .ok (.arraylength, 1) := by decide +kernel
theorem dJ1_charAt_3b067_3 : decode cJ1_charAt_3b067 3 = .ok (.invokestatic 9, 3) := by decide +kernel
theorem dJ1_charAt_3b067_6 : decode cJ1_charAt_3b067 6 = .ok (.aload_n 0, 1) := by decide +kernel
theorem dJ1_charAt_3b067_7 : decode cJ1_charAt_3b067 7 = .ok (.iload_n 1, 1) := by decide +kernel
theorem dJ1_charAt_3b067_8 : decode cJ1_charAt_3b067 8 = .ok (.baload, 1) := by decide +kernel
theorem dJ1_charAt_3b067_9 : decode cJ1_charAt_3b067 9 = .ok (.sipush 255, 3) := by decide +kernel
theorem dJ1_charAt_3b067_12 : decode cJ1_charAt_3b067 12 = .ok (.iand, 1) := by decide +kernel
theorem dJ1_charAt_3b067_13 : decode cJ1_charAt_3b067 13 = .ok (.i2c, 1) := by decide +kernel
theorem dJ1_charAt_3b067_14 : decode cJ1_charAt_3b067 14 = .ok (.ireturn, 1) := by decide +kernel
theorem pyJ1_charAt_3b067 : PY yJ1_charAt_3b067 2 := ⟨by decide +kernel, by decide +kernel, by decide +kernel⟩
theorem dJ1_canEncode_9a6ad_0 : decode cJ1_canEncode_9a6ad 0 = .ok (.iload_n 0, 1) := by decide +kernel
theorem dJ1_canEncode_9a6ad_1 : decode cJ1_canEncode_9a6ad 1 = .ok (.ifCond .lt 14, 3) := by decide +kernel
theorem dJ1_canEncode_9a6ad_4 : decode cJ1_canEncode_9a6ad 4 = .ok (.iload_n 0, 1) := by decide +kernel
theorem dJ1_canEncode_9a6ad_5 : decode cJ1_canEncode_9a6ad 5 = .ok (.sipush 255, 3) := by decide +kernel
theorem dJ1_canEncode_9a6ad_8 : decode cJ1_canEncode_9a6ad 8 = .ok (.if_icmp .gt 7, 3) := by decide +kernel
theorem dJ1_canEncode_9a6ad_11 : decode cJ1_canEncode_9a6ad 11 = .ok (.iconst 1, 1) := by decide +kernel
theorem dJ1_canEncode_9a6ad_12 : decode cJ1_canEncode_9a6ad 12 = .ok (.goto 4, 3) := by decide +kernel
theorem dJ1_canEncode_9a6ad_15 : decode cJ1_canEncode_9a6ad 15 = .ok (.iconst 0, 1) := by decide +kernel
theorem dJ1_canEncode_9a6ad_16 : decode cJ1_canEncode_9a6ad 16 = .ok (.ireturn, 1) := by decide +kernel
theorem pyJ1_canEncode_9a6ad : PY yJ1_canEncode_9a6ad 1 := ⟨by decide +kernel, by decide +kernel, by decide +kernel⟩
theorem dJ1_indexOfChar_4cfef_0 : decode cJ1_indexOfChar_4cfef 0 = .ok (.iload_n 1, 1) := by decide +kernel
theorem dJ1_indexOfChar_4cfef_1 : decode cJ1_indexOfChar_4cfef 1 = .ok (.i2b, 1) := by decide +kernel
theorem dJ1_indexOfChar_4cfef_2 : decode cJ1_indexOfChar_4cfef 2 = .ok (.istore 4, 2) := by decide +kernel
theorem dJ1_indexOfChar_4cfef_4 : decode cJ1_indexOfChar_4cfef 4 = .ok (.iload_n 2, 1) := by decide +kernel
theorem dJ1_indexOfChar_4cfef_5 : decode cJ1_indexOfChar_4cfef 5 = .ok (.istore 5, 2) := by decide +kernel
theorem dJ1_indexOfChar_4cfef_7 : decode cJ1_indexOfChar_4cfef 7 = .ok (.iload 5, 2) := by decide +kernel
theorem dJ1_indexOfChar_4cfef_9 : decode cJ1_indexOfChar_4cfef 9 = .ok (.iload_n 3, 1) := by decide +kernel
theorem dJ1_indexOfChar_4cfef_10 : decode cJ1_indexOfChar_4cfef 10 = .ok (.if_icmp .ge 21, 3) := by decide +kernel
theorem dJ1_indexOfChar_4cfef_13 : decode cJ1_indexOfChar_4cfef 13 = .ok (.aload_n 0, 1) := by decide +kernel
theorem dJ1_indexOfChar_4cfef_14 : decode cJ1_indexOfChar_4cfef 14 = .ok (.iload 5, 2) := by decide +kernel
theorem dJ1_indexOfChar_4cfef_16 : decode cJ1_indexOfChar_4cfef 16 = .ok (.baload, 1) := by decide +kernel
theorem dJ1_indexOfChar_4cfef_17 : decode cJ1_indexOfChar_4cfef 17 = .ok (.iload 4, 2) := by decide +kernel
theorem dJ1_indexOfChar_4cfef_19 : decode cJ1_indexOfChar_4cfef 19 = .ok (.if_icmp .ne 6, 3) := by decide +kernel
theorem dJ1_indexOfChar_4cfef_22 : decode cJ1_indexOfChar_4cfef 22 = .ok (.iload 5, 2) := by decide +kernel
theorem dJ1_indexOfChar_4cfef_24 : decode cJ1_indexOfChar_4cfef 24 = .ok (.ireturn, 1) := by decide +kernel
theorem dJ1_indexOfChar_4cfef_25 : decode cJ1_indexOfChar_4cfef 25 = .ok (.iinc 5 1, 3) := by decide +kernel
theorem dJ1_indexOfChar_4cfef_28 : decode cJ1_indexOfChar_4cfef 28 = .ok (.goto (-21), 3) := by decide +kernel
theorem dJ1_indexOfChar_4cfef_31 : decode cJ1_indexOfChar_4cfef 31 = .ok (.iconst (-1), 1) := by decide +kernel
theorem dJ1_indexOfChar_4cfef_32 : decode cJ1_indexOfChar_4cfef 32 = .ok (.ireturn, 1) := by decide +kernel
theorem pyJ1_indexOfChar_4cfef : PY yJ1_indexOfChar_4cfef 4 := ⟨by decide +kernel, by decide +kernel, by decide +kernel⟩
theorem dJ1_indexOf_4cfef_0 : decode cJ1_indexOf_4cfef 0 = .ok (.iload_n 1, 1) := by decide +kernel
theorem dJ1_indexOf_4cfef_1 : decode cJ1_indexOf_4cfef 1 = .ok (.invokestatic 88, 3) := by decide +kernel
theorem dJ1_indexOf_4cfef_4 : decode cJ1_indexOf_4cfef 4 = .ok (.ifCond .ne 5, 3) := by decide +kernel
theorem dJ1_indexOf_4cfef_7 : decode cJ1_indexOf_4cfef 7 = .ok (.iconst (-1), 1) := by decide +kernel
theorem dJ1_indexOf_4cfef_8 : decode cJ1_indexOf_4cfef 8 = .ok (.ireturn, 1) := by decide +kernel
theorem dJ1_indexOf_4cfef_9 : decode cJ1_indexOf_4cfef 9 = .ok (.iload_n 2, 1) := by decide +kernel
theorem dJ1_indexOf_4cfef_10 : decode cJ1_indexOf_4cfef 10 = .ok (.iconst 0, 1) := by decide +kernel
theorem dJ1_indexOf_4cfef_11 : decode cJ1_indexOf_4cfef 11 = .ok (.invokestatic 92, 3) := by decide +kernel
theorem dJ1_indexOf_4cfef_14 : decode cJ1_indexOf_4cfef 14 = .ok (.istore_n 2, 1) := by decide +kernel
theorem dJ1_indexOf_4cfef_15 : decode cJ1_indexOf_4cfef 15 = .ok (.iload_n 3, 1) := by decide +kernel
theorem dJ1_indexOf_4cfef_16 : decode cJ1_indexOf_4cfef 16 = .ok (.aload_n 0, 1) := by decide +kernel
theorem dJ1_indexOf_4cfef_17 : decode cJ1_indexOf_4cfef 17 = .ok (.arraylength, 1) := by decide +kernel
theorem dJ1_indexOf_4cfef_18 : decode cJ1_indexOf_4cfef 18 = .ok (.invokestatic 38, 3) := by decide +kernel
theorem dJ1_indexOf_4cfef_21 : decode cJ1_indexOf_4cfef 21 = .ok (.istore_n 3, 1) := by decide +kernel
theorem dJ1_indexOf_4cfef_22 : decode cJ1_indexOf_4cfef 22 = .ok (.iload_n 2, 1) := by decide +kernel
theorem dJ1_indexOf_4cfef_23 : decode cJ1_indexOf_4cfef 23 = .ok (.iload_n 3, 1) := by decide +kernel
theorem dJ1_indexOf_4cfef_24 : decode cJ1_indexOf_4cfef 24 = .ok (.if_icmp .lt 5, 3) := by decide +kernel
theorem dJ1_indexOf_4cfef_27 : decode cJ1_indexOf_4cfef 27 = .ok (.iconst (-1), 1) := by decide +kernel
theorem dJ1_indexOf_4cfef_28 : decode cJ1_indexOf_4cfef 28 = .ok (.ireturn, 1) := by decide +kernel
theorem dJ1_indexOf_4cfef_29 : decode cJ1_indexOf_4cfef 29 = .ok (.aload_n 0, 1) := by decide +kernel
theorem dJ1_indexOf_4cfef_30 : decode cJ1_indexOf_4cfef 30 = .ok (.iload_n 1, 1) := by decide +kernel
theorem dJ1_indexOf_4cfef_31 : decode cJ1_indexOf_4cfef 31 = .ok (.iload_n 2, 1) := by decide +kernel
theorem dJ1_indexOf_4cfef_32 : decode cJ1_indexOf_4cfef 32 = .ok (.iload_n 3, 1) := by decide +kernel
theorem dJ1_indexOf_4cfef_33 : decode cJ1_indexOf_4cfef 33 = .ok (.invokestatic 95, 3) := by decide +kernel
theorem dJ1_indexOf_4cfef_36 : decode cJ1_indexOf_4cfef 36 = .ok (.ireturn, 1) := by decide +kernel
theorem pyJ1_indexOf_4cfef : PY yJ1_indexOf_4cfef 4 := ⟨by decide +kernel, by decide +kernel, by decide +kernel⟩
theorem dJ0_indexOf_7cf53_0 : decode cJ0_indexOf_7cf53 0 = .ok (.aload_n 0, 1) := by decide +kernel
theorem dJ0_indexOf_7cf53_1 : decode cJ0_indexOf_7cf53 1 = .ok (.invokevirtual 492, 3) := by decide +kernel
theorem dJ0_indexOf_7cf53_4 : decode cJ0_indexOf_7cf53 4 = .ok (.ifCond .eq 19, 3) := by decide +kernel
theorem dJ0_indexOf_7cf53_7 : decode cJ0_indexOf_7cf53 7 = .ok (.aload_n 0, 1) := by decide +kernel
theorem dJ0_indexOf_7cf53_8 : decode cJ0_indexOf_7cf53 8 = .ok (.getfield 9, 3) := by decide +kernel
theorem dJ0_indexOf_7cf53_11 : decode cJ0_indexOf_7cf53 11 = .ok (.iload_n 1, 1) := by decide +kernel
theorem dJ0_indexOf_7cf53_12 : decode cJ0_indexOf_7cf53 12 = .ok (.iload_n 2, 1) := by decide +kernel
theorem dJ0_indexOf_7cf53_13 : decode cJ0_indexOf_7cf53 13 = .ok (.aload_n 0, 1) := by decide +kernel
theorem dJ0_indexOf_7cf53_14 : decode cJ0_indexOf_7cf53 14 = .ok (.invokevirtual 505, 3) := by decide +kernel
theorem dJ0_indexOf_7cf53_17 : decode cJ0_indexOf_7cf53 17 = .ok (.invokestatic 637, 3) := by decide +kernel
theorem dJ0_indexOf_7cf53_20 : decode cJ0_indexOf_7cf53 20 = .ok (.goto 16, 3) := by decide +kernel
theorem dJ0_indexOf_7cf53_23 : decode cJ0_indexOf_7cf53 23 = .ok (.aload_n 0, 1) := by decide +kernel
theorem dJ0_indexOf_7cf53_24 : decode cJ0_indexOf_7cf53 24 = .ok (.getfield 9, 3) := by decide +kernel
theorem dJ0_indexOf_7cf53_27 : decode cJ0_indexOf_7cf53 27 = .ok (.iload_n 1, 1) := by decide +kernel
theorem dJ0_indexOf_7cf53_28 : decode cJ0_indexOf_7cf53 28 = .ok (.iload_n 2, 1) := by decide +kernel
theorem dJ0_indexOf_7cf53_29 : decode cJ0_indexOf_7cf53 29 = .ok (.aload_n 0, 1) := by decide +kernel
theorem dJ0_indexOf_7cf53_30 : decode cJ0_indexOf_7cf53 30 = .ok (.invokevirtual 505, 3) := by decide +kernel
theorem dJ0_indexOf_7cf53_33 : decode cJ0_indexOf_7cf53 33 = .ok (.invokestatic 640, 3) := by decide +kernel
theorem dJ0_indexOf_7cf53_36 : decode cJ0_indexOf_7cf53 36 = .ok (.ireturn, 1) := by decide +kernel
theorem pyJ0_indexOf_7cf53 : PY yJ0_indexOf_7cf53 2 := ⟨by decide +kernel, by decide +kernel, by decide +kernel⟩
theorem dJ0_indexOf_0f7a4_0 : decode cJ0_indexOf_0f7a4 0 = .ok (.aload_n 0, 1) := by decide +kernel
theorem dJ0_indexOf_0f7a4_1 : decode cJ0_indexOf_0f7a4 1 = .ok (.iload_n 1, 1) := by decide +kernel
theorem dJ0_indexOf_0f7a4_2 : decode cJ0_indexOf_0f7a4 2 = .ok (.iconst 0, 1) := by decide +kernel
theorem dJ0_indexOf_0f7a4_3 : decode cJ0_indexOf_0f7a4 3 = .ok (.invokevirtual 633, 3) := by decide +kernel
theorem dJ0_indexOf_0f7a4_6 : decode cJ0_indexOf_0f7a4 6 = .ok (.ireturn, 1) := by decide +kernel
theorem pyJ0_indexOf_0f7a4 : PY yJ0_indexOf_0f7a4 1 := ⟨by decide +kernel, by decide +kernel, by decide +kernel⟩
theorem tbJ38 : Cond.fieldLink RJ0 38 "java/lang/String" "COMPACT_STRINGS" "Z" ∈ TBL := tb_of (tb2 188 rfl) rfl
theorem tbJ15 : Cond.fieldLink RJ0 15 "java/lang/String" "coder" "B" ∈ TBL := tb_of (tb5 228 rfl) rfl
theorem tbJ9 : Cond.fieldLink RJ0 9 "java/lang/String" "value" "[B" ∈ TBL := tb_of (tb5 229 rfl) rfl
theorem tbJ1053 : Cond.fieldLink RJ0 1053 "jdk/internal/util/Preconditions" "SIOOBE_FORMATTER" "Ljava/util/function/BiFunction;" ∈ TBL := tb_of (tb2 231 rfl) rfl
theorem mlJ1_92 : Cond.methodLink RJ1 92 Lib.Math.max.name ∈ TBL := tb_of (tb2 204 rfl) rfl
theorem mlJ1_38 : Cond.methodLink RJ1 38 Lib.Math.min.name ∈ TBL := tb_of (tb2 207 rfl) rfl
section RS
variable {p : Program} {l : Launch} {e : Env} {R : Room} {s : State} {m : MethodId} {args : Array Value} {below : List Frame} {meth : Method} {c : Code} {H : Heap} {locs : List Loc} {Q : State → Prop}
variable {own : String} {cc : ByteArray} {nL nf nl : Nat} {A : Nat → Prop} {G : GG} {rt : Option FieldType} {Y : LY} {S S1 : HS} {pc : Nat} {ls : Array Slot} {rest : List Value}
theorem rw_callK (X : Cx p R s m args meth c own cc nL nf nl A G rt) {index i : Nat} {y : MethodName} {b : ByteArray} {n f lo : Nat} {ret : Option FieldType} {As st0 : List Value} {rv : Option Value} (hi : i < 3)
    (hdg : decode cc pc = .ok (.invokevirtual index, 3)) (hC : CLv own index y b n ret) (hy : PY y As.length) (hM : MM l y b n ret f lo G Y S (.ref (G.2.2.1 i) :: As) S1 rv) (hroom : f + 1 ≤ nf ∧ 8 + (n + 11) + lo ≤ nl) (hcl : y.cls = "java/lang/String") (hP : HP A G Y s S H locs)
    (hst : st0 = As.reverse ++ .ref (G.2.2.1 i) :: rest) (hcat : (rest.map fun v => v.category).sum ≤ 8) (hsz : ls.size = nL)
    (kk : ∀ (H1 : Heap) (locs1 : List Loc), HP A G Y s S1 H1 locs1 → W p l e R s m args below meth c H1 locs1 0 0 Q (F0 m (pc + 3) ls (rv.toList ++ rest))) : W p l e R s m args below meth c H locs 0 0 Q (F0 m pc ls st0) := by
  have hX := X
  obtain ⟨hfix, hKK, hST, hlocks, hrt, hnf, hnl, hz1, hz2⟩ := X
  obtain ⟨c1, c2, c3, c4, c5⟩ := hC
  have hrecv := vk_recv hST.1 hi hP.2.2
  rw [← hcl] at hrecv
  have hG : GoodIn TBL (wsV own index y.cls y (.code y b n ret :: TBL)) := by
    intro w hw
    have hm : w ∈ TBL := by
      simp only [wsV, List.cons_append, List.nil_append, List.mem_cons] at hw
      rcases hw with rfl | rfl | rfl | rfl | rfl | hw
      · exact c1
      · exact c4
      · exact c5
      · exact c3
      · exact c2
      · exact hw
    exact tbl_good w hm
  refine rw_after (va_runV (As := As) (rest := rest) hfix hM (cwV As.length hfix.2.2.2.2 hG rfl rfl rfl ⟨rfl, hy.1, hy.2.1, hy.2.2⟩ ⟨Nat.le_trans hroom.1 hnf, Nat.le_trans hroom.2 hnl⟩) ⟨preW_blind, hrecv, fun U hU hW => preW_of hX hP U hU hW⟩ rfl rfl hsz hst (lv_room hcat) hdg ⟨hz1, hz2⟩) hP kk
theorem rw_xret (X : Cx p R s m args meth c own cc nL nf nl (fun q => q ∈ Y.1) G rt) {v : Int32} {ty : FieldType} (ht : rt = some ty) (hn : narrow ty (.int v) = .int v) (hdg : decode cc pc = .ok (.ireturn, 1)) (hP : HP (fun q => q ∈ Y.1) G Y s S H locs) : W p l e R s m args below meth c H locs 0 0 (MQ below (QI G Y S (some (.int v))) args s 0 0 (fun q => q ∈ Y.1)) (F0 m pc ls [.int v]) := by
  obtain ⟨⟨hx, hb, -⟩, -, -, hlocks, hr, -⟩ := X
  subst ht
  exact W.zret hx hb hr hn (fun t ht hW => ⟨rfl, by rw [ht]; exact hP.1, hP.2.2.F ht⟩) hP.2.2.2.2 hdg
theorem rs_tlen (X : Cx p R s m args meth c own cc nL nf nl A G rt) {i : Nat} (hi : i < 3) (hdg : decode cc pc = .ok (.arraylength, 1)) (hP : HP A G Y s S H locs)
    (kk : W p l e R s m args below meth c H locs 0 0 Q (F0 m (pc + 1) ls (.int (sLen i) :: rest))) : W p l e R s m args below meth c H locs 0 0 Q (F0 m pc ls (.ref (G.2.2.2 i) :: rest)) := by
  obtain ⟨⟨hx, hb, -⟩, -, hST, -⟩ := X
  obtain ⟨cell, h1, h2, h3, h4, h5, h6, h7⟩ := (hST.1.1 i hi).2.2.2
  exact W.alen (n := sLen i) hx hb (by rw [hP.2.2.2.1 _ (Array.getElem?_eq_some_iff.mp h1).1 h7]; exact h1) h2 h5 rfl rfl hdg kk
end RS
set_option maxRecDepth 100000 in
set_option maxHeartbeats 4000000 in
theorem mJ_isLatin1 (l : Launch) {G : GG} {Y : LY} {S : HS} {i : Nat} (hi : i < 3) : MM l yJ0_isLatin1_aae02 cJ0_isLatin1_aae02 1 (some .boolean) 0 0 G Y S [.ref (G.2.2.1 i)] S (some (.int 1)) := by
  refine mm_of2 (by decide +kernel) (Nat.le_of_ble_eq_true rfl) (c1c (ca _) c1n) ?_
  intro p e R s m args below meth c X H locs ls hP hl
  have X : Cx p R s m args meth c RJ0 cJ0_isLatin1_aae02 1 0 0 (fun q => q ∈ Y.1) G (some .boolean) := X
  have hx := X.1.1
  have hb := X.1.2.1
  have hl : LV ls 1 [(0, .ref (G.2.2.1 i))] := hl
  refine va_gets hx hb X.2.2.1.2.1 hP.2.2 X.1.2.2.2.1 (X.1.2.2.2.2 _ tbJ38) (fun _ h => h) dJ0_isLatin1_aae02_0 ?_
  refine lv_if_eq (tgt := 17) hx hb dJ0_isLatin1_aae02_3 (by decide) (fun c => absurd c (by decide)) (fun _ => ?_)
  refine lv_aload_n hx hb dJ0_isLatin1_aae02_6 rfl (hl.at 0 rfl) ?_
  refine vk_getf hx hb (X.2.2.1.1.1 i hi).2.1 hP.2.2 X.1.2.2.2.1 (X.1.2.2.2.2 _ tbJ15) (fun _ h => h) dJ0_isLatin1_aae02_7 ?_
  refine lv_if_ne (tgt := 17) hx hb dJ0_isLatin1_aae02_10 (by decide) (fun c => absurd rfl c) (fun _ => ?_)
  refine lv_iconst (v := 1) hx hb dJ0_isLatin1_aae02_13 (by decide) ?_
  refine lv_goto (tgt := 18) hx hb dJ0_isLatin1_aae02_14 (by decide) ?_
  exact rw_zret X (Or.inr rfl) dJ0_isLatin1_aae02_18 hP
set_option maxRecDepth 100000 in
set_option maxHeartbeats 4000000 in
theorem mJ_coder (l : Launch) {G : GG} {Y : LY} {S : HS} {i : Nat} (hi : i < 3) : MM l yJ0_coder_7d493 cJ0_coder_7d493 1 (some .byte) 0 0 G Y S [.ref (G.2.2.1 i)] S (some (.int 0)) := by
  refine mm_of2 (by decide +kernel) (Nat.le_of_ble_eq_true rfl) (c1c (ca _) c1n) ?_
  intro p e R s m args below meth c X H locs ls hP hl
  have X : Cx p R s m args meth c RJ0 cJ0_coder_7d493 1 0 0 (fun q => q ∈ Y.1) G (some .byte) := X
  have hx := X.1.1
  have hb := X.1.2.1
  have hl : LV ls 1 [(0, .ref (G.2.2.1 i))] := hl
  refine va_gets hx hb X.2.2.1.2.1 hP.2.2 X.1.2.2.2.1 (X.1.2.2.2.2 _ tbJ38) (fun _ h => h) dJ0_coder_7d493_0 ?_
  refine lv_if_eq (tgt := 13) hx hb dJ0_coder_7d493_3 (by decide) (fun c => absurd c (by decide)) (fun _ => ?_)
  refine lv_aload_n hx hb dJ0_coder_7d493_6 rfl (hl.at 0 rfl) ?_
  refine vk_getf hx hb (X.2.2.1.1.1 i hi).2.1 hP.2.2 X.1.2.2.2.1 (X.1.2.2.2.2 _ tbJ15) (fun _ h => h) dJ0_coder_7d493_7 ?_
  refine lv_goto (tgt := 14) hx hb dJ0_coder_7d493_10 (by decide) ?_
  exact rw_xret X rfl (by decide +kernel) dJ0_coder_7d493_14 hP
set_option maxRecDepth 100000 in
set_option maxHeartbeats 4000000 in
theorem mJ_length (l : Launch) {G : GG} {Y : LY} {S : HS} {i : Nat} (hi : i < 3) : MM l yJ0_length_8abf5 cJ0_length_8abf5 1 (some .int) 1 20 G Y S [.ref (G.2.2.1 i)] S (some (.int (sLen i))) := by
  refine mm_of2 (by decide +kernel) (Nat.le_of_ble_eq_true rfl) (c1c (ca _) c1n) ?_
  intro p e R s m args below meth c X H locs ls hP hl
  have X : Cx p R s m args meth c RJ0 cJ0_length_8abf5 1 1 20 (fun q => q ∈ Y.1) G (some .int) := X
  have hx := X.1.1
  have hb := X.1.2.1
  have hl : LV ls 1 [(0, .ref (G.2.2.1 i))] := hl
  refine lv_aload_n hx hb dJ0_length_8abf5_0 rfl (hl.at 0 rfl) ?_
  refine vk_getf hx hb (X.2.2.1.1.1 i hi).2.2.1 hP.2.2 X.1.2.2.2.1 (X.1.2.2.2.2 _ tbJ9) (fun _ h => h) dJ0_length_8abf5_1 ?_
  refine rs_tlen X hi dJ0_length_8abf5_4 hP ?_
  refine lv_aload_n hx hb dJ0_length_8abf5_5 rfl (hl.at 0 rfl) ?_
  refine rw_callK (As := []) X hi dJ0_length_8abf5_6 clJ0_335 pyJ0_coder_7d493 (mJ_coder l hi) (by decide) rfl hP rfl (catL (c1c (ci _) c1n) (Nat.le_of_ble_eq_true rfl)) hl.1.1 (fun H locs hP => ?_)
  refine W.eq (g2 := F0 m 9 ls [.int 0, .int (sLen i)]) rfl ?_
  refine lv_ishr hx hb dJ0_length_8abf5_9 ?_
  rw [sb_shr0]
  exact rw_iret X dJ0_length_8abf5_10 hP
set_option maxRecDepth 100000 in
set_option maxHeartbeats 4000000 in
theorem mJ_canEncode (l : Launch) {G : GG} {Y : LY} {S : HS} {k : Int32} : MM l yJ1_canEncode_9a6ad cJ1_canEncode_9a6ad 1 (some .boolean) 0 0 G Y S [.int k] S (some (.int (if k < 0 then 0 else if 255 < k then 0 else 1))) := by
  refine mm_of2 (by decide +kernel) (Nat.le_of_ble_eq_true rfl) (c1c (ci _) c1n) ?_
  intro p e R s m args below meth c X H locs ls hP hl
  have X : Cx p R s m args meth c RJ1 cJ1_canEncode_9a6ad 1 0 0 (fun q => q ∈ Y.1) G (some .boolean) := X
  have hx := X.1.1
  have hb := X.1.2.1
  have hl : LV ls 1 [(0, .int k)] := hl
  refine lv_iload_n hx hb dJ1_canEncode_9a6ad_0 rfl (hl.at 0 rfl) ?_
  refine lv_if_lt (tgt := 15) hx hb dJ1_canEncode_9a6ad_1 (by decide) (fun c1 => ?_) (fun c1 => ?_)
  · rw [if_pos c1]
    refine lv_iconst (v := 0) hx hb dJ1_canEncode_9a6ad_15 (by decide) ?_
    exact rw_zret X (Or.inl rfl) dJ1_canEncode_9a6ad_16 hP
  · rw [if_neg c1]
    refine lv_iload_n hx hb dJ1_canEncode_9a6ad_4 rfl (hl.at 0 rfl) ?_
    refine lv_sipush (v := 255) hx hb dJ1_canEncode_9a6ad_5 (by decide) ?_
    refine lv_icmp_gt (tgt := 15) hx hb dJ1_canEncode_9a6ad_8 (by decide) (fun c2 => ?_) (fun c2 => ?_)
    · rw [if_pos c2]
      refine lv_iconst (v := 0) hx hb dJ1_canEncode_9a6ad_15 (by decide) ?_
      exact rw_zret X (Or.inl rfl) dJ1_canEncode_9a6ad_16 hP
    · rw [if_neg c2]
      refine lv_iconst (v := 1) hx hb dJ1_canEncode_9a6ad_11 (by decide) ?_
      refine lv_goto (tgt := 16) hx hb dJ1_canEncode_9a6ad_12 (by decide) ?_
      exact rw_zret X (Or.inr rfl) dJ1_canEncode_9a6ad_16 hP
set_option maxRecDepth 100000 in
set_option maxHeartbeats 4000000 in
theorem mJ_pcheck (l : Launch) {G : GG} {Y : LY} {S : HS} {k n : Int32} {v : Value} (hv : v.category = 1) (h0 : ¬ k < 0) (h1 : k < n) : MM l yJ3_checkIndex_8e157 cJ3_checkIndex_8e157 3 (some .int) 0 0 G Y S [.int k, .int n, v] S (some (.int k)) := by
  refine mm_of2 (by decide +kernel) (Nat.le_of_ble_eq_true rfl) (c1c (ci _) (c1c (ci _) (c1c hv c1n))) ?_
  intro p e R s m args below meth c X H locs ls hP hl
  have X : Cx p R s m args meth c RJ3 cJ3_checkIndex_8e157 3 0 0 (fun q => q ∈ Y.1) G (some .int) := X
  have hx := X.1.1
  have hb := X.1.2.1
  have hl : LV ls 3 [(0, .int k), (1, .int n), (2, v)] := hl
  refine lv_iload_n hx hb dJ3_checkIndex_8e157_0 rfl (hl.at 0 rfl) ?_
  refine lv_if_lt (tgt := 9) hx hb dJ3_checkIndex_8e157_1 (by decide) (fun c1 => absurd c1 h0) (fun c1 => ?_)
  refine lv_iload_n hx hb dJ3_checkIndex_8e157_4 rfl (hl.at 0 rfl) ?_
  refine lv_iload_n hx hb dJ3_checkIndex_8e157_5 rfl (hl.at 1 rfl) ?_
  refine lv_icmp_lt (tgt := 16) hx hb dJ3_checkIndex_8e157_6 (by decide) (fun c2 => ?_) (fun c2 => absurd h1 c2)
  refine lv_iload_n hx hb dJ3_checkIndex_8e157_16 rfl (hl.at 0 rfl) ?_
  exact rw_iret X dJ3_checkIndex_8e157_17 hP
set_option maxRecDepth 100000 in
set_option maxHeartbeats 4000000 in
theorem mJ_check (l : Launch) {G : GG} {Y : LY} {S : HS} {k n : Int32} (h0 : ¬ k < 0) (h1 : k < n) : MM l yJ0_checkIndex_df160 cJ0_checkIndex_df160 2 none 1 22 G Y S [.int k, .int n] S none := by
  refine mm_of2 (by decide +kernel) (Nat.le_of_ble_eq_true rfl) (c1c (ci _) (c1c (ci _) c1n)) ?_
  intro p e R s m args below meth c X H locs ls hP hl
  have X : Cx p R s m args meth c RJ0 cJ0_checkIndex_df160 2 1 22 (fun q => q ∈ Y.1) G none := X
  have hx := X.1.1
  have hb := X.1.2.1
  have hl : LV ls 2 [(0, .int k), (1, .int n)] := hl
  refine lv_iload_n hx hb dJ0_checkIndex_df160_0 rfl (hl.at 0 rfl) ?_
  refine lv_iload_n hx hb dJ0_checkIndex_df160_1 rfl (hl.at 1 rfl) ?_
  obtain ⟨v, hv, hZ⟩ : ∃ v : Value, v.category = 1 ∧ va_Z "jdk/internal/util/Preconditions" "SIOOBE_FORMATTER" "Ljava/util/function/BiFunction;" v (fun q => q ∈ Y.1) s s.heap := by
    rcases X.2.2.1.2.2.2.2.2.2 with h | ⟨t, h⟩
    · exact ⟨_, rfl, h⟩
    · exact ⟨_, rfl, h⟩
  refine va_gets hx hb hZ hP.2.2 X.1.2.2.2.1 (X.1.2.2.2.2 _ tbJ1053) (fun _ h => h) dJ0_checkIndex_df160_2 ?_
  refine rw_callSi (As := [.int k, .int n, v]) X dJ0_checkIndex_df160_5 clJ0_1059 pyJ3_checkIndex_8e157 (mJ_pcheck l hv h0 h1) (by decide) hP rfl (catL c1n (Nat.le_of_ble_eq_true rfl)) hl.1.1 (fun H locs hP => ?_)
  refine lv_pop hx hb dJ0_checkIndex_df160_8 rfl ?_
  exact rw_vret X dJ0_checkIndex_df160_9 hP
end
section
/-! charAt, indexOf on the String constants, and their rows -/
theorem js_b : ∀ i, i < 3 → ∀ j, j < lenJS.getD i 0 → ((((bytJS.getD i []).getD j 0) &&& 255).toUInt32 % 65536).toInt32 = (bytJS.getD i []).getD j 0 := by decide +kernel
theorem js_l : ∀ i, i < 3 → (bytJS.getD i []).length = lenJS.getD i 0 ∧ lenJS.getD i 0 < 100 := by decide +kernel
theorem js_c : ∀ n, n < 256 → ∀ i, i < 3 → ∀ b ∈ bytJS.getD i [], (b = (nI n).toInt8.toInt32 ↔ b = nI n) := by decide +kernel
theorem js_out : ∀ i, i < 3 → ∀ b ∈ bytJS.getD i [], ¬ b < 0 ∧ ¬ 255 < b := by decide +kernel
theorem inr_of {k : Int32} {n : Nat} (h : inr k n = true) (hn : n < 2 ^ 31) : ¬ k < 0 ∧ k < nI n ∧ ∃ j, j < n ∧ k = nI j := by
  obtain ⟨j, hj, rfl⟩ := vp_in_of (inr_in h) hn
  exact ⟨nI_pos (by omega), nI_lt hj (by omega), j, hj, rfl⟩
theorem sIxF_out {c : Int32} : ∀ (l : List Int32) (k : Nat), (∀ b ∈ l, ¬ b = c) → sIxF c l k = -1
  | [], _, _ => rfl
  | b :: l, k, h => by
    rw [sIxF, if_neg (h b List.mem_cons_self)]
    exact sIxF_out l (k + 1) (fun w hw => h w (List.mem_cons_of_mem _ hw))
set_option maxRecDepth 100000 in
set_option maxHeartbeats 4000000 in
theorem mJ_l1charAt (l : Launch) {G : GG} {Y : LY} {S : HS} {i : Nat} (hi : i < 3) {k : Int32} (hk : inr k (lenJS.getD i 0) = true) : MM l yJ1_charAt_3b067 cJ1_charAt_3b067 2 (some .char) 2 43 G Y S [.ref (G.2.2.2 i), .int k] S (some (.int ((bytJS.getD i []).getD k.toNatClampNeg 0))) := by
  obtain ⟨h0, h1, j, hj, hkj⟩ := inr_of hk (by have := (js_l i hi).2; omega)
  have hv := js_b i hi j hj
  rw [show j = k.toNatClampNeg by rw [hkj, nI_clamp (by have := (js_l i hi).2; omega)]] at hv
  refine mm_of2 (by decide +kernel) (Nat.le_of_ble_eq_true rfl) (c1c (ca _) (c1c (ci _) c1n)) ?_
  intro p e R s m args below meth c X H locs ls hP hl
  have X : Cx p R s m args meth c RJ1 cJ1_charAt_3b067 2 2 43 (fun q => q ∈ Y.1) G (some .char) := X
  have hx := X.1.1
  have hb := X.1.2.1
  have hl : LV ls 2 [(0, .ref (G.2.2.2 i)), (1, .int k)] := hl
  refine lv_iload_n hx hb dJ1_charAt_3b067_0 rfl (hl.at 1 rfl) ?_
  refine lv_aload_n hx hb dJ1_charAt_3b067_1 rfl (hl.at 0 rfl) ?_
  refine rs_tlen X hi dJ1_charAt_3b067_2 hP ?_
  refine rw_callSv (As := [.int k, .int (sLen i)]) X dJ1_charAt_3b067_3 clJ1_9 pyJ0_checkIndex_df160 (mJ_check l h0 h1) (by decide) hP rfl (catL c1n (Nat.le_of_ble_eq_true rfl)) hl.1.1 (fun H locs hP => ?_)
  refine lv_aload_n hx hb dJ1_charAt_3b067_6 rfl (hl.at 0 rfl) ?_
  refine lv_iload_n hx hb dJ1_charAt_3b067_7 rfl (hl.at 1 rfl) ?_
  refine va_tb hx hb (X.2.2.1.1.1 i hi).2.2.2 hP.2.2 (inr_in hk) rfl dJ1_charAt_3b067_8 ?_
  refine lv_sipush (v := 255) hx hb dJ1_charAt_3b067_9 (by decide) ?_
  refine lv_iand hx hb dJ1_charAt_3b067_12 ?_
  refine lv_i2c (v := (bytJS.getD i []).getD k.toNatClampNeg 0) hx hb dJ1_charAt_3b067_13 hv ?_
  exact rw_xret X rfl (by rw [← hv]; exact pk_nc _) dJ1_charAt_3b067_14 hP
set_option maxRecDepth 100000 in
set_option maxHeartbeats 4000000 in
theorem mJ_charAt (l : Launch) {G : GG} {Y : LY} {S : HS} {i : Nat} (hi : i < 3) {k : Int32} (hk : inr k (lenJS.getD i 0) = true) : MM l yJ0_charAt_5068e cJ0_charAt_5068e 2 (some .char) 3 64 G Y S [.ref (G.2.2.1 i), .int k] S (some (.int ((bytJS.getD i []).getD k.toNatClampNeg 0))) := by
  obtain ⟨h0, h1, j, hj, hkj⟩ := inr_of hk (by have := (js_l i hi).2; omega)
  have hv := js_b i hi j hj
  rw [show j = k.toNatClampNeg by rw [hkj, nI_clamp (by have := (js_l i hi).2; omega)]] at hv
  refine mm_of2 (by decide +kernel) (Nat.le_of_ble_eq_true rfl) (c1c (ca _) (c1c (ci _) c1n)) ?_
  intro p e R s m args below meth c X H locs ls hP hl
  have X : Cx p R s m args meth c RJ0 cJ0_charAt_5068e 2 3 64 (fun q => q ∈ Y.1) G (some .char) := X
  have hx := X.1.1
  have hb := X.1.2.1
  have hl : LV ls 2 [(0, .ref (G.2.2.1 i)), (1, .int k)] := hl
  refine lv_aload_n hx hb dJ0_charAt_5068e_0 rfl (hl.at 0 rfl) ?_
  refine rw_callK (As := []) X hi dJ0_charAt_5068e_1 clJ0_492 pyJ0_isLatin1_aae02 (mJ_isLatin1 l hi) (by decide) rfl hP rfl (catL c1n (Nat.le_of_ble_eq_true rfl)) hl.1.1 (fun H locs hP => ?_)
  refine W.eq (g2 := F0 m 4 ls [.int 1]) rfl ?_
  refine lv_if_eq (tgt := 16) hx hb dJ0_charAt_5068e_4 (by decide) (fun c => absurd c (by decide)) (fun _ => ?_)
  refine lv_aload_n hx hb dJ0_charAt_5068e_7 rfl (hl.at 0 rfl) ?_
  refine vk_getf hx hb (X.2.2.1.1.1 i hi).2.2.1 hP.2.2 X.1.2.2.2.1 (X.1.2.2.2.2 _ tbJ9) (fun _ h => h) dJ0_charAt_5068e_8 ?_
  refine lv_iload_n hx hb dJ0_charAt_5068e_11 rfl (hl.at 1 rfl) ?_
  refine rw_callSi (As := [.ref (G.2.2.2 i), .int k]) X dJ0_charAt_5068e_12 clJ0_495 pyJ1_charAt_3b067 (mJ_l1charAt l hi hk) (by decide) hP rfl (catL c1n (Nat.le_of_ble_eq_true rfl)) hl.1.1 (fun H locs hP => ?_)
  exact rw_xret X rfl (by rw [← hv]; exact pk_nc _) dJ0_charAt_5068e_15 hP
set_option maxRecDepth 100000 in
set_option maxHeartbeats 4000000 in
theorem wJ_ixc {p : Program} {l : Launch} {e : Env} {R : Room} {s : State} {m : MethodId} {args : Array Value} {below : List Frame} {meth : Method} {c : Code} {G : GG} {Y : LY} {S : HS} {i n : Nat} (hi : i < 3) (hn : n < 256)
    (X : Cx p R s m args meth c RJ1 cJ1_indexOfChar_4cfef 6 0 0 (fun q => q ∈ Y.1) G (some .int)) : ∀ (L : List Int32) (k : Nat), k ≤ lenJS.getD i 0 → (bytJS.getD i []).drop k = L → ∀ (H : Heap) (locs : List Loc) (ls : Array Slot), HP (fun q => q ∈ Y.1) G Y s S H locs → LV ls 6 [(5, .int (nI k)), (4, .int (nI n).toInt8.toInt32), (0, .ref (G.2.2.2 i)), (3, .int (sLen i))] → W p l e R s m args below meth c H locs 0 0 (MQ below (QI G Y S (some (.int (sIxF (nI n) L k)))) args s 0 0 (fun q => q ∈ Y.1)) (F0 m 7 ls []) := by
  have hx := X.1.1
  have hb := X.1.2.1
  obtain ⟨hlen, h100⟩ := js_l i hi
  intro L
  induction L with
  | nil =>
    intro k hk hd H locs ls hP hl
    have hkl : k = lenJS.getD i 0 := by
      have := congrArg List.length hd
      rw [List.length_drop, hlen] at this
      rw [List.length_nil] at this
      omega
    refine lv_iload hx hb dJ1_indexOfChar_4cfef_7 (hl.at 0 rfl) ?_
    refine lv_iload_n hx hb dJ1_indexOfChar_4cfef_9 rfl (hl.at 3 rfl) ?_
    refine lv_icmp_ge (tgt := 31) hx hb dJ1_indexOfChar_4cfef_10 (by decide) (fun c => ?_) (fun c => ?_)
    · refine lv_iconst (v := -1) hx hb dJ1_indexOfChar_4cfef_31 (by decide) ?_
      exact rw_iret X dJ1_indexOfChar_4cfef_32 hP
    · exact absurd (nI_le (by omega) (by omega)) c
  | cons b L ih =>
    intro k hk hd H locs ls hP hl
    have hkl : k < (bytJS.getD i []).length := by
      have := congrArg List.length hd
      rw [List.length_drop, List.length_cons] at this
      omega
    have hbk : (bytJS.getD i []).getD k 0 = b ∧ (bytJS.getD i []).drop (k + 1) = L ∧ b ∈ bytJS.getD i [] := by
      have e1 : (bytJS.getD i [])[k]? = some b := by
        have := congrArg (fun l => l[0]?) hd
        simp only [List.getElem?_drop, Nat.add_zero, List.getElem?_cons_zero] at this
        exact this
      refine ⟨by rw [List.getD_eq_getElem?_getD, e1]; rfl, ?_, List.mem_of_getElem? e1⟩
      have := congrArg (fun l => l.drop 1) hd
      simpa [List.drop_drop, Nat.add_comm] using this
    obtain ⟨hb1, hb2, hb3⟩ := hbk
    refine lv_iload hx hb dJ1_indexOfChar_4cfef_7 (hl.at 0 rfl) ?_
    refine lv_iload_n hx hb dJ1_indexOfChar_4cfef_9 rfl (hl.at 3 rfl) ?_
    refine lv_icmp_ge (tgt := 31) hx hb dJ1_indexOfChar_4cfef_10 (by decide) (fun c => absurd c (nI_ge (by omega) (by omega))) (fun c => ?_)
    refine lv_aload_n hx hb dJ1_indexOfChar_4cfef_13 rfl (hl.at 2 rfl) ?_
    refine lv_iload hx hb dJ1_indexOfChar_4cfef_14 (hl.at 0 rfl) ?_
    refine va_tb (v := .int b) hx hb (X.2.2.1.1.1 i hi).2.2.2 hP.2.2 (vp_in_nI (by omega) (by omega)) (by rw [nI_clamp (by omega), hb1]) dJ1_indexOfChar_4cfef_16 ?_
    refine lv_iload hx hb dJ1_indexOfChar_4cfef_17 (hl.at 1 rfl) ?_
    refine lv_icmp_ne (tgt := 25) hx hb dJ1_indexOfChar_4cfef_19 (by decide) (fun c2 => ?_) (fun c2 => ?_)
    · rw [sIxF, if_neg (fun h => c2 ((js_c n hn i hi b hb3).mpr h))]
      refine rv_iinc (k := 0) (d := 1) X dJ1_indexOfChar_4cfef_25 hl rfl (by decide) (by decide) rfl (fun ls hl => ?_)
      have hl : LV ls 6 [(5, .int (nI (k + 1))), (4, .int (nI n).toInt8.toInt32), (0, .ref (G.2.2.2 i)), (3, .int (sLen i))] := by rw [nI_succ]; exact hl
      refine lv_goto (tgt := 7) hx hb dJ1_indexOfChar_4cfef_28 (by decide) ?_
      exact ih (k + 1) (by omega) hb2 H locs ls hP hl
    · rw [sIxF, if_pos ((js_c n hn i hi b hb3).mp c2)]
      refine lv_iload hx hb dJ1_indexOfChar_4cfef_22 (hl.at 0 rfl) ?_
      exact rw_iret X dJ1_indexOfChar_4cfef_24 hP
set_option maxRecDepth 100000 in
set_option maxHeartbeats 4000000 in
theorem mJ_ixc (l : Launch) {G : GG} {Y : LY} {S : HS} {i n : Nat} (hi : i < 3) (hn : n < 256) : MM l yJ1_indexOfChar_4cfef cJ1_indexOfChar_4cfef 6 (some .int) 0 0 G Y S [.ref (G.2.2.2 i), .int (nI n), .int 0, .int (sLen i)] S (some (.int (sIxF (nI n) (bytJS.getD i []) 0))) := by
  refine mm_of2 (by decide +kernel) (Nat.le_of_ble_eq_true rfl) (c1c (ca _) (c1c (ci _) (c1c (ci _) (c1c (ci _) c1n)))) ?_
  intro p e R s m args below meth c X H locs ls hP hl
  have X : Cx p R s m args meth c RJ1 cJ1_indexOfChar_4cfef 6 0 0 (fun q => q ∈ Y.1) G (some .int) := X
  have hx := X.1.1
  have hb := X.1.2.1
  have hl : LV ls 6 [(0, .ref (G.2.2.2 i)), (1, .int (nI n)), (2, .int 0), (3, .int (sLen i))] := hl
  refine lv_iload_n hx hb dJ1_indexOfChar_4cfef_0 rfl (hl.at 1 rfl) ?_
  refine lv_i2b hx hb dJ1_indexOfChar_4cfef_1 rfl ?_
  refine rv_istore X dJ1_indexOfChar_4cfef_2 hl (by decide) rfl (fun ls hl => ?_)
  have hl : LV ls 6 [(4, .int (nI n).toInt8.toInt32), (0, .ref (G.2.2.2 i)), (1, .int (nI n)), (2, .int 0), (3, .int (sLen i))] := hl
  refine lv_iload_n hx hb dJ1_indexOfChar_4cfef_4 rfl (hl.at 3 rfl) ?_
  refine rv_istore X dJ1_indexOfChar_4cfef_5 hl (by decide) rfl (fun ls hl => ?_)
  have hl : LV ls 6 [(5, .int 0), (4, .int (nI n).toInt8.toInt32), (0, .ref (G.2.2.2 i)), (1, .int (nI n)), (2, .int 0), (3, .int (sLen i))] := hl
  have hl2 : LV ls 6 [(5, .int (nI 0)), (4, .int (nI n).toInt8.toInt32), (0, .ref (G.2.2.2 i)), (3, .int (sLen i))] := by rw [nI_0]; exact hl.sub [0, 1, 2, 5] rfl
  exact wJ_ixc hi hn X _ 0 (Nat.zero_le _) rfl _ _ _ hP hl2
set_option maxRecDepth 100000 in
set_option maxHeartbeats 4000000 in
theorem mJ_l1ix (l : Launch) {G : GG} {Y : LY} {S : HS} {i : Nat} (hi : i < 3) {k : Int32} : MM l yJ1_indexOf_4cfef cJ1_indexOf_4cfef 4 (some .int) 1 40 G Y S [.ref (G.2.2.2 i), .int k, .int 0, .int (sLen i)] S (some (.int (sIxF k (bytJS.getD i []) 0))) := by
  refine mm_of2 (by decide +kernel) (Nat.le_of_ble_eq_true rfl) (c1c (ca _) (c1c (ci _) (c1c (ci _) (c1c (ci _) c1n)))) ?_
  intro p e R s m args below meth c X H locs ls hP hl
  have X : Cx p R s m args meth c RJ1 cJ1_indexOf_4cfef 4 1 40 (fun q => q ∈ Y.1) G (some .int) := X
  have hx := X.1.1
  have hb := X.1.2.1
  have hl : LV ls 4 [(0, .ref (G.2.2.2 i)), (1, .int k), (2, .int 0), (3, .int (sLen i))] := hl
  obtain ⟨hlen, h100⟩ := js_l i hi
  refine lv_iload_n hx hb dJ1_indexOf_4cfef_0 rfl (hl.at 1 rfl) ?_
  refine rw_callSi (As := [.int k]) X dJ1_indexOf_4cfef_1 clJ1_88 pyJ1_canEncode_9a6ad (mJ_canEncode l) (by decide) hP rfl (catL c1n (Nat.le_of_ble_eq_true rfl)) hl.1.1 (fun H locs hP => ?_)
  by_cases hc : k < 0 ∨ 255 < k
  · have e0 : (if k < 0 then (0 : Int32) else if 255 < k then 0 else 1) = 0 := by
      rcases hc with hc | hc
      · rw [if_pos hc]
      · by_cases h2 : k < 0
        · rw [if_pos h2]
        · rw [if_neg h2, if_pos hc]
    rw [e0]
    refine lv_if_ne (tgt := 9) hx hb dJ1_indexOf_4cfef_4 (by decide) (fun c => absurd rfl c) (fun _ => ?_)
    refine lv_iconst (v := -1) hx hb dJ1_indexOf_4cfef_7 (by decide) ?_
    have e1 : sIxF k (bytJS.getD i []) 0 = -1 := sIxF_out _ _ (fun b hb h => by
      have := js_out i hi b hb
      rw [h] at this
      rcases hc with hc | hc
      · exact this.1 hc
      · exact this.2 hc)
    rw [e1]
    exact rw_iret X dJ1_indexOf_4cfef_8 hP
  · have hc1 : ¬ k < 0 := fun h => hc (Or.inl h)
    have hc2 : ¬ 255 < k := fun h => hc (Or.inr h)
    rw [if_neg hc1, if_neg hc2]
    obtain ⟨n, hn, rfl⟩ := nI_of2 (M := 255) (n := 255) (by decide) hc1 (by
      rw [Int32.le_iff_toInt_le]
      rw [Int32.lt_iff_toInt_lt] at hc2
      omega)
    refine lv_if_ne (tgt := 9) hx hb dJ1_indexOf_4cfef_4 (by decide) (fun _ => ?_) (fun c => absurd c (by decide))
    refine lv_iload_n hx hb dJ1_indexOf_4cfef_9 rfl (hl.at 2 rfl) ?_
    refine lv_iconst (v := 0) hx hb dJ1_indexOf_4cfef_10 (by decide) ?_
    refine rv_max X mlJ1_92 ⟨Nat.le_of_ble_eq_true rfl, Nat.le_of_ble_eq_true rfl⟩ c1n hl.1.1 dJ1_indexOf_4cfef_11 ?_
    rw [show jmax 0 0 = 0 from rfl]
    refine rv_istore_n X dJ1_indexOf_4cfef_14 rfl hl (by decide) rfl (fun ls hl => ?_)
    have hl : LV ls 4 [(2, .int 0), (0, .ref (G.2.2.2 i)), (1, .int (nI n)), (3, .int (sLen i))] := hl
    refine lv_iload_n hx hb dJ1_indexOf_4cfef_15 rfl (hl.at 3 rfl) ?_
    refine lv_aload_n hx hb dJ1_indexOf_4cfef_16 rfl (hl.at 1 rfl) ?_
    refine rs_tlen X hi dJ1_indexOf_4cfef_17 hP ?_
    refine rv_min X mlJ1_38 ⟨Nat.le_of_ble_eq_true rfl, Nat.le_of_ble_eq_true rfl⟩ c1n hl.1.1 dJ1_indexOf_4cfef_18 ?_
    rw [show jmin (sLen i) (sLen i) = sLen i by unfold jmin; exact ite_self _]
    refine rv_istore_n X dJ1_indexOf_4cfef_21 rfl hl (by decide) rfl (fun ls hl => ?_)
    have hl : LV ls 4 [(3, .int (sLen i)), (2, .int 0), (0, .ref (G.2.2.2 i)), (1, .int (nI n))] := hl
    refine lv_iload_n hx hb dJ1_indexOf_4cfef_22 rfl (hl.at 1 rfl) ?_
    refine lv_iload_n hx hb dJ1_indexOf_4cfef_23 rfl (hl.at 0 rfl) ?_
    have hpos : (0 : Int32) < sLen i := by
      have : ∀ i, i < 3 → (0 : Int32) < sLen i := by decide +kernel
      exact this i hi
    refine lv_icmp_lt (tgt := 29) hx hb dJ1_indexOf_4cfef_24 (by decide) (fun _ => ?_) (fun c => absurd hpos c)
    refine lv_aload_n hx hb dJ1_indexOf_4cfef_29 rfl (hl.at 2 rfl) ?_
    refine lv_iload_n hx hb dJ1_indexOf_4cfef_30 rfl (hl.at 3 rfl) ?_
    refine lv_iload_n hx hb dJ1_indexOf_4cfef_31 rfl (hl.at 1 rfl) ?_
    refine lv_iload_n hx hb dJ1_indexOf_4cfef_32 rfl (hl.at 0 rfl) ?_
    refine rw_callSi (As := [.ref (G.2.2.2 i), .int (nI n), .int 0, .int (sLen i)]) X dJ1_indexOf_4cfef_33 clJ1_95 pyJ1_indexOfChar_4cfef (mJ_ixc l hi (by omega)) (by decide) hP rfl (catL c1n (Nat.le_of_ble_eq_true rfl)) hl.1.1 (fun H locs hP => ?_)
    exact rw_iret X dJ1_indexOf_4cfef_36 hP
set_option maxRecDepth 100000 in
set_option maxHeartbeats 4000000 in
theorem mJ_ix2 (l : Launch) {G : GG} {Y : LY} {S : HS} {i : Nat} (hi : i < 3) {k : Int32} : MM l yJ0_indexOf_7cf53 cJ0_indexOf_7cf53 3 (some .int) 2 63 G Y S [.ref (G.2.2.1 i), .int k, .int 0] S (some (.int (sIxF k (bytJS.getD i []) 0))) := by
  refine mm_of2 (by decide +kernel) (Nat.le_of_ble_eq_true rfl) (c1c (ca _) (c1c (ci _) (c1c (ci _) c1n))) ?_
  intro p e R s m args below meth c X H locs ls hP hl
  have X : Cx p R s m args meth c RJ0 cJ0_indexOf_7cf53 3 2 63 (fun q => q ∈ Y.1) G (some .int) := X
  have hx := X.1.1
  have hb := X.1.2.1
  have hl : LV ls 3 [(0, .ref (G.2.2.1 i)), (1, .int k), (2, .int 0)] := hl
  refine lv_aload_n hx hb dJ0_indexOf_7cf53_0 rfl (hl.at 0 rfl) ?_
  refine rw_callK (As := []) X hi dJ0_indexOf_7cf53_1 clJ0_492 pyJ0_isLatin1_aae02 (mJ_isLatin1 l hi) (by decide) rfl hP rfl (catL c1n (Nat.le_of_ble_eq_true rfl)) hl.1.1 (fun H locs hP => ?_)
  refine W.eq (g2 := F0 m 4 ls [.int 1]) rfl ?_
  refine lv_if_eq (tgt := 23) hx hb dJ0_indexOf_7cf53_4 (by decide) (fun c => absurd c (by decide)) (fun _ => ?_)
  refine lv_aload_n hx hb dJ0_indexOf_7cf53_7 rfl (hl.at 0 rfl) ?_
  refine vk_getf hx hb (X.2.2.1.1.1 i hi).2.2.1 hP.2.2 X.1.2.2.2.1 (X.1.2.2.2.2 _ tbJ9) (fun _ h => h) dJ0_indexOf_7cf53_8 ?_
  refine lv_iload_n hx hb dJ0_indexOf_7cf53_11 rfl (hl.at 1 rfl) ?_
  refine lv_iload_n hx hb dJ0_indexOf_7cf53_12 rfl (hl.at 2 rfl) ?_
  refine lv_aload_n hx hb dJ0_indexOf_7cf53_13 rfl (hl.at 0 rfl) ?_
  refine rw_callK (As := []) X hi dJ0_indexOf_7cf53_14 clJ0_505 pyJ0_length_8abf5 (mJ_length l hi) (by decide) rfl hP rfl (catL (c1c (ci _) (c1c (ci _) (c1c (ca _) c1n))) (Nat.le_of_ble_eq_true rfl)) hl.1.1 (fun H locs hP => ?_)
  refine W.eq (g2 := F0 m 17 ls [.int (sLen i), .int 0, .int k, .ref (G.2.2.2 i)]) rfl ?_
  refine rw_callSi (As := [.ref (G.2.2.2 i), .int k, .int 0, .int (sLen i)]) X dJ0_indexOf_7cf53_17 clJ0_637 pyJ1_indexOf_4cfef (mJ_l1ix l hi) (by decide) hP rfl (catL c1n (Nat.le_of_ble_eq_true rfl)) hl.1.1 (fun H locs hP => ?_)
  refine lv_goto (tgt := 36) hx hb dJ0_indexOf_7cf53_20 (by decide) ?_
  exact rw_iret X dJ0_indexOf_7cf53_36 hP
set_option maxRecDepth 100000 in
set_option maxHeartbeats 4000000 in
theorem mJ_ix1 (l : Launch) {G : GG} {Y : LY} {S : HS} {i : Nat} (hi : i < 3) {k : Int32} : MM l yJ0_indexOf_0f7a4 cJ0_indexOf_0f7a4 2 (some .int) 3 85 G Y S [.ref (G.2.2.1 i), .int k] S (some (.int (sIxF k (bytJS.getD i []) 0))) := by
  refine mm_of2 (by decide +kernel) (Nat.le_of_ble_eq_true rfl) (c1c (ca _) (c1c (ci _) c1n)) ?_
  intro p e R s m args below meth c X H locs ls hP hl
  have X : Cx p R s m args meth c RJ0 cJ0_indexOf_0f7a4 2 3 85 (fun q => q ∈ Y.1) G (some .int) := X
  have hx := X.1.1
  have hb := X.1.2.1
  have hl : LV ls 2 [(0, .ref (G.2.2.1 i)), (1, .int k)] := hl
  refine lv_aload_n hx hb dJ0_indexOf_0f7a4_0 rfl (hl.at 0 rfl) ?_
  refine lv_iload_n hx hb dJ0_indexOf_0f7a4_1 rfl (hl.at 1 rfl) ?_
  refine lv_iconst (v := 0) hx hb dJ0_indexOf_0f7a4_2 (by decide) ?_
  refine rw_callK (As := [.int k, .int 0]) X hi dJ0_indexOf_0f7a4_3 clJ0_633 pyJ0_indexOf_7cf53 (mJ_ix2 l hi) (by decide) rfl hP rfl (catL c1n (Nat.le_of_ble_eq_true rfl)) hl.1.1 (fun H locs hP => ?_)
  exact rw_iret X dJ0_indexOf_0f7a4_6 hP
section RT
variable {p : Program} {l : Launch} {e : Env} {R : Room} {s : State} {m : MethodId} {args : Array Value} {below : List Frame} {meth : Method} {c : Code} {H : Heap} {locs : List Loc} {Q : State → Prop}
variable {own : String} {cc : ByteArray} {nL nf nl : Nat} {A : Nat → Prop} {G : GG} {rt : Option FieldType} {Y : LY} {S S1 : HS} {pc : Nat} {ls : Array Slot} {rest : List Value}
theorem rs_len (X : Cx p R s m args meth c own cc nL nf nl A G rt) {index i : Nat} (hC : CLv own index yJ0_length_8abf5 cJ0_length_8abf5 1 (some .int)) (hi : i < 3) (hroom : 8 ≤ nf ∧ 400 ≤ nl) (hcat : (rest.map fun v => v.category).sum ≤ 8) (hsz : ls.size = nL) (hdg : decode cc pc = .ok (.invokevirtual index, 3)) (hP : HP A G Y s S H locs)
    (kk : ∀ (H1 : Heap) (locs1 : List Loc), HP A G Y s S H1 locs1 → W p l e R s m args below meth c H1 locs1 0 0 Q (F0 m (pc + 3) ls (.int (sLen i) :: rest))) : W p l e R s m args below meth c H locs 0 0 Q (F0 m pc ls (.ref (G.2.2.1 i) :: rest)) :=
  rw_callK (As := []) X hi hdg hC pyJ0_length_8abf5 (mJ_length l hi) (by omega) rfl hP rfl hcat hsz kk
theorem rs_ch (X : Cx p R s m args meth c own cc nL nf nl A G rt) {index i : Nat} {k v : Int32} (hC : CLv own index yJ0_charAt_5068e cJ0_charAt_5068e 2 (some .char)) (h : sCh i k = some v) (hroom : 8 ≤ nf ∧ 400 ≤ nl) (hcat : (rest.map fun v => v.category).sum ≤ 8) (hsz : ls.size = nL) (hdg : decode cc pc = .ok (.invokevirtual index, 3)) (hP : HP A G Y s S H locs)
    (kk : ∀ (H1 : Heap) (locs1 : List Loc), HP A G Y s S H1 locs1 → W p l e R s m args below meth c H1 locs1 0 0 Q (F0 m (pc + 3) ls (.int v :: rest))) : W p l e R s m args below meth c H locs 0 0 Q (F0 m pc ls (.int k :: .ref (G.2.2.1 i) :: rest)) := by
  unfold sCh at h
  by_cases hc : (decide (i < 3) && inr k (lenJS.getD i 0)) = true
  · rw [if_pos hc] at h
    cases h
    rw [Bool.and_eq_true, decide_eq_true_eq] at hc
    exact rw_callK (As := [.int k]) X hc.1 hdg hC pyJ0_charAt_5068e (mJ_charAt l hc.1 hc.2) (by omega) rfl hP rfl hcat hsz kk
  · rw [if_neg hc] at h
    cases h
theorem rs_ix (X : Cx p R s m args meth c own cc nL nf nl A G rt) {index i : Nat} {k v : Int32} (hC : CLv own index yJ0_indexOf_0f7a4 cJ0_indexOf_0f7a4 2 (some .int)) (h : sIx i k = some v) (hroom : 8 ≤ nf ∧ 400 ≤ nl) (hcat : (rest.map fun v => v.category).sum ≤ 8) (hsz : ls.size = nL) (hdg : decode cc pc = .ok (.invokevirtual index, 3)) (hP : HP A G Y s S H locs)
    (kk : ∀ (H1 : Heap) (locs1 : List Loc), HP A G Y s S H1 locs1 → W p l e R s m args below meth c H1 locs1 0 0 Q (F0 m (pc + 3) ls (.int v :: rest))) : W p l e R s m args below meth c H locs 0 0 Q (F0 m pc ls (.int k :: .ref (G.2.2.1 i) :: rest)) := by
  unfold sIx at h
  by_cases hc : i < 3
  · rw [if_pos hc] at h
    cases h
    exact rw_callK (As := [.int k]) X hc hdg hC pyJ0_indexOf_0f7a4 (mJ_ix1 l hc) (by omega) rfl hP rfl hcat hsz kk
  · rw [if_neg hc] at h
    cases h
end RT
end
