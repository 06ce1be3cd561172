section
-- ===== PART A: goes FIRST, ahead of the names: the tables' words, and 'selects' of the private methods out of them =====
/-- a private method of a class that the tables say can be made, by its rows of tables_1 -/
def lw_okq (q : MethodName × Nat) : Prop := (q.1.cls ≠ "java/lang/invoke/MethodHandle" ∧ q.1.cls ≠ "java/lang/invoke/VarHandle") ∧ Cond.instantiable q.1.cls q.2 ∈ tables_1 ∧ Cond.privateMethod q.1 ∈ tables_1 ∧ Cond.instanceMethod q.1 ∈ tables_1
theorem lw_p0 : lw_okq (⟨"BehaviorRunner$Parser", "readNode", "(LBehaviorRunner$Node;I)Z"⟩, 3) := ⟨⟨by decide +kernel, by decide +kernel⟩, List.mem_of_getElem? (i := 384) (by decide +kernel), List.mem_of_getElem? (i := 404) (by decide +kernel), List.mem_of_getElem? (i := 405) (by decide +kernel)⟩
theorem lw_p1 : lw_okq (⟨"BehaviorRunner$Parser", "placeIn", "(Ljava/lang/String;)I"⟩, 3) := ⟨⟨by decide +kernel, by decide +kernel⟩, List.mem_of_getElem? (i := 384) (by decide +kernel), List.mem_of_getElem? (i := 409) (by decide +kernel), List.mem_of_getElem? (i := 410) (by decide +kernel)⟩
theorem lw_p2 : lw_okq (⟨"BehaviorRunner$Parser", "readRest", "(LBehaviorRunner$Node;I)Z"⟩, 3) := ⟨⟨by decide +kernel, by decide +kernel⟩, List.mem_of_getElem? (i := 384) (by decide +kernel), List.mem_of_getElem? (i := 527) (by decide +kernel), List.mem_of_getElem? (i := 528) (by decide +kernel)⟩
theorem lw_p3 : lw_okq (⟨"BehaviorRunner$Parser", "readNumber", "(LBehaviorRunner$Node;II)Z"⟩, 3) := ⟨⟨by decide +kernel, by decide +kernel⟩, List.mem_of_getElem? (i := 384) (by decide +kernel), List.mem_of_getElem? (i := 531) (by decide +kernel), List.mem_of_getElem? (i := 532) (by decide +kernel)⟩
theorem lw_p4 : lw_okq (⟨"BehaviorRunner$Parser", "readDigit", "(II)I"⟩, 3) := ⟨⟨by decide +kernel, by decide +kernel⟩, List.mem_of_getElem? (i := 384) (by decide +kernel), List.mem_of_getElem? (i := 535) (by decide +kernel), List.mem_of_getElem? (i := 536) (by decide +kernel)⟩
theorem lw_p5 : lw_okq (⟨"BehaviorRunner$Parser", "readEffects", "(LBehaviorRunner$Node;)Z"⟩, 3) := ⟨⟨by decide +kernel, by decide +kernel⟩, List.mem_of_getElem? (i := 384) (by decide +kernel), List.mem_of_getElem? (i := 539) (by decide +kernel), List.mem_of_getElem? (i := 540) (by decide +kernel)⟩
theorem lw_p6 : lw_okq (⟨"BehaviorRunner$Parser", "readClause", "(LBehaviorRunner$Node;LBehaviorRunner$Clause;Ljava/lang/String;)Z"⟩, 3) := ⟨⟨by decide +kernel, by decide +kernel⟩, List.mem_of_getElem? (i := 384) (by decide +kernel), List.mem_of_getElem? (i := 544) (by decide +kernel), List.mem_of_getElem? (i := 545) (by decide +kernel)⟩
theorem lw_p7 : lw_okq (⟨"BehaviorRunner$Parser", "skip", "(C)Z"⟩, 3) := ⟨⟨by decide +kernel, by decide +kernel⟩, List.mem_of_getElem? (i := 384) (by decide +kernel), List.mem_of_getElem? (i := 573) (by decide +kernel), List.mem_of_getElem? (i := 574) (by decide +kernel)⟩
theorem lw_p8 : lw_okq (⟨"BehaviorRunner$Parser", "readList", "(LBehaviorRunner$Node;I)Z"⟩, 3) := ⟨⟨by decide +kernel, by decide +kernel⟩, List.mem_of_getElem? (i := 384) (by decide +kernel), List.mem_of_getElem? (i := 578) (by decide +kernel), List.mem_of_getElem? (i := 579) (by decide +kernel)⟩
theorem lw_p9 : lw_okq (⟨"BehaviorRunner$Walker", "beginVisit", "(LBehaviorRunner$Node;)I"⟩, 2) := ⟨⟨by decide +kernel, by decide +kernel⟩, List.mem_of_getElem? (i := 46) (by decide +kernel), List.mem_of_getElem? (i := 617) (by decide +kernel), List.mem_of_getElem? (i := 618) (by decide +kernel)⟩
theorem lw_p10 : lw_okq (⟨"BehaviorRunner$Walker", "beginRun", "(LBehaviorRunner$Node;)V"⟩, 2) := ⟨⟨by decide +kernel, by decide +kernel⟩, List.mem_of_getElem? (i := 46) (by decide +kernel), List.mem_of_getElem? (i := 621) (by decide +kernel), List.mem_of_getElem? (i := 622) (by decide +kernel)⟩
theorem lw_p11 : lw_okq (⟨"BehaviorRunner$Walker", "act", "(LBehaviorRunner$Node;I)I"⟩, 2) := ⟨⟨by decide +kernel, by decide +kernel⟩, List.mem_of_getElem? (i := 46) (by decide +kernel), List.mem_of_getElem? (i := 625) (by decide +kernel), List.mem_of_getElem? (i := 626) (by decide +kernel)⟩
theorem lw_p12 : lw_okq (⟨"BehaviorRunner$Walker", "goDown", "(LBehaviorRunner$Node;)I"⟩, 2) := ⟨⟨by decide +kernel, by decide +kernel⟩, List.mem_of_getElem? (i := 46) (by decide +kernel), List.mem_of_getElem? (i := 641) (by decide +kernel), List.mem_of_getElem? (i := 642) (by decide +kernel)⟩
theorem lw_p13 : lw_okq (⟨"BehaviorRunner$Walker", "goOnInParallel", "(LBehaviorRunner$Node;LBehaviorRunner$Node;)I"⟩, 2) := ⟨⟨by decide +kernel, by decide +kernel⟩, List.mem_of_getElem? (i := 46) (by decide +kernel), List.mem_of_getElem? (i := 645) (by decide +kernel), List.mem_of_getElem? (i := 646) (by decide +kernel)⟩
theorem lw_p14 : lw_okq (⟨"BehaviorRunner$Walker", "endRun", "(LBehaviorRunner$Node;I)V"⟩, 2) := ⟨⟨by decide +kernel, by decide +kernel⟩, List.mem_of_getElem? (i := 46) (by decide +kernel), List.mem_of_getElem? (i := 653) (by decide +kernel), List.mem_of_getElem? (i := 654) (by decide +kernel)⟩
theorem lw_p15 : lw_okq (⟨"BehaviorRunner$Walker", "goDownIf", "(ZLBehaviorRunner$Node;)I"⟩, 2) := ⟨⟨by decide +kernel, by decide +kernel⟩, List.mem_of_getElem? (i := 46) (by decide +kernel), List.mem_of_getElem? (i := 664) (by decide +kernel), List.mem_of_getElem? (i := 665) (by decide +kernel)⟩
def lw_privs_1 : List (MethodName × Nat) := [(⟨"BehaviorRunner$Parser", "readNode", "(LBehaviorRunner$Node;I)Z"⟩, 3), (⟨"BehaviorRunner$Parser", "placeIn", "(Ljava/lang/String;)I"⟩, 3), (⟨"BehaviorRunner$Parser", "readRest", "(LBehaviorRunner$Node;I)Z"⟩, 3), (⟨"BehaviorRunner$Parser", "readNumber", "(LBehaviorRunner$Node;II)Z"⟩, 3), (⟨"BehaviorRunner$Parser", "readDigit", "(II)I"⟩, 3), (⟨"BehaviorRunner$Parser", "readEffects", "(LBehaviorRunner$Node;)Z"⟩, 3), (⟨"BehaviorRunner$Parser", "readClause", "(LBehaviorRunner$Node;LBehaviorRunner$Clause;Ljava/lang/String;)Z"⟩, 3), (⟨"BehaviorRunner$Parser", "skip", "(C)Z"⟩, 3), (⟨"BehaviorRunner$Parser", "readList", "(LBehaviorRunner$Node;I)Z"⟩, 3), (⟨"BehaviorRunner$Walker", "beginVisit", "(LBehaviorRunner$Node;)I"⟩, 2), (⟨"BehaviorRunner$Walker", "beginRun", "(LBehaviorRunner$Node;)V"⟩, 2), (⟨"BehaviorRunner$Walker", "act", "(LBehaviorRunner$Node;I)I"⟩, 2), (⟨"BehaviorRunner$Walker", "goDown", "(LBehaviorRunner$Node;)I"⟩, 2), (⟨"BehaviorRunner$Walker", "goOnInParallel", "(LBehaviorRunner$Node;LBehaviorRunner$Node;)I"⟩, 2), (⟨"BehaviorRunner$Walker", "endRun", "(LBehaviorRunner$Node;I)V"⟩, 2), (⟨"BehaviorRunner$Walker", "goDownIf", "(ZLBehaviorRunner$Node;)I"⟩, 2)]
theorem lw_r1 : ∀ q ∈ lw_privs_1, lw_okq q := List.forall_mem_cons.mpr ⟨lw_p0, List.forall_mem_cons.mpr ⟨lw_p1, List.forall_mem_cons.mpr ⟨lw_p2, List.forall_mem_cons.mpr ⟨lw_p3, List.forall_mem_cons.mpr ⟨lw_p4, List.forall_mem_cons.mpr ⟨lw_p5, List.forall_mem_cons.mpr ⟨lw_p6, List.forall_mem_cons.mpr ⟨lw_p7, List.forall_mem_cons.mpr ⟨lw_p8, List.forall_mem_cons.mpr ⟨lw_p9, List.forall_mem_cons.mpr ⟨lw_p10, List.forall_mem_cons.mpr ⟨lw_p11, List.forall_mem_cons.mpr ⟨lw_p12, List.forall_mem_cons.mpr ⟨lw_p13, List.forall_mem_cons.mpr ⟨lw_p14, List.forall_mem_cons.mpr ⟨lw_p15, fun _ h => absurd h List.not_mem_nil⟩⟩⟩⟩⟩⟩⟩⟩⟩⟩⟩⟩⟩⟩⟩⟩
theorem lw_p16 : lw_okq (⟨"BehaviorRunner$Walker", "endVisit", "(LBehaviorRunner$Node;I)V"⟩, 2) := ⟨⟨by decide +kernel, by decide +kernel⟩, List.mem_of_getElem? (i := 46) (by decide +kernel), List.mem_of_getElem? (i := 668) (by decide +kernel), List.mem_of_getElem? (i := 669) (by decide +kernel)⟩
theorem lw_p17 : lw_okq (⟨"BehaviorRunner$Walker", "goOn", "(LBehaviorRunner$Node;LBehaviorRunner$Node;I)I"⟩, 2) := ⟨⟨by decide +kernel, by decide +kernel⟩, List.mem_of_getElem? (i := 46) (by decide +kernel), List.mem_of_getElem? (i := 672) (by decide +kernel), List.mem_of_getElem? (i := 673) (by decide +kernel)⟩
theorem lw_p18 : lw_okq (⟨"BehaviorRunner$Walker", "goOnInList", "(LBehaviorRunner$Node;LBehaviorRunner$Node;II)I"⟩, 2) := ⟨⟨by decide +kernel, by decide +kernel⟩, List.mem_of_getElem? (i := 46) (by decide +kernel), List.mem_of_getElem? (i := 676) (by decide +kernel), List.mem_of_getElem? (i := 677) (by decide +kernel)⟩
theorem lw_p19 : lw_okq (⟨"BehaviorRunner$Walker", "countResult", "(LBehaviorRunner$Node;II)I"⟩, 2) := ⟨⟨by decide +kernel, by decide +kernel⟩, List.mem_of_getElem? (i := 46) (by decide +kernel), List.mem_of_getElem? (i := 684) (by decide +kernel), List.mem_of_getElem? (i := 685) (by decide +kernel)⟩
theorem lw_p20 : lw_okq (⟨"BehaviorRunner$Ledger", "placeOf", "(I)I"⟩, 11) := ⟨⟨by decide +kernel, by decide +kernel⟩, List.mem_of_getElem? (i := 63) (by decide +kernel), List.mem_of_getElem? (i := 764) (by decide +kernel), List.mem_of_getElem? (i := 765) (by decide +kernel)⟩
theorem lw_p21 : lw_okq (⟨"BehaviorRunner$Writer", "writeHead", "(LBehaviorRunner$Node;)V"⟩, 2) := ⟨⟨by decide +kernel, by decide +kernel⟩, List.mem_of_getElem? (i := 784) (by decide +kernel), List.mem_of_getElem? (i := 803) (by decide +kernel), List.mem_of_getElem? (i := 804) (by decide +kernel)⟩
theorem lw_p22 : lw_okq (⟨"BehaviorRunner$Writer", "hasNumber", "(LBehaviorRunner$Node;)Z"⟩, 2) := ⟨⟨by decide +kernel, by decide +kernel⟩, List.mem_of_getElem? (i := 784) (by decide +kernel), List.mem_of_getElem? (i := 811) (by decide +kernel), List.mem_of_getElem? (i := 812) (by decide +kernel)⟩
theorem lw_p23 : lw_okq (⟨"BehaviorRunner$Writer", "writeNumber", "(I)V"⟩, 2) := ⟨⟨by decide +kernel, by decide +kernel⟩, List.mem_of_getElem? (i := 784) (by decide +kernel), List.mem_of_getElem? (i := 815) (by decide +kernel), List.mem_of_getElem? (i := 816) (by decide +kernel)⟩
theorem lw_p24 : lw_okq (⟨"BehaviorRunner$Writer", "writeClause", "(LBehaviorRunner$Clause;)V"⟩, 2) := ⟨⟨by decide +kernel, by decide +kernel⟩, List.mem_of_getElem? (i := 784) (by decide +kernel), List.mem_of_getElem? (i := 819) (by decide +kernel), List.mem_of_getElem? (i := 820) (by decide +kernel)⟩
theorem lw_p25 : lw_okq (⟨"BehaviorRunner$Writer", "writeBehind", "(LBehaviorRunner$Node;)V"⟩, 2) := ⟨⟨by decide +kernel, by decide +kernel⟩, List.mem_of_getElem? (i := 784) (by decide +kernel), List.mem_of_getElem? (i := 827) (by decide +kernel), List.mem_of_getElem? (i := 828) (by decide +kernel)⟩
theorem lw_p26 : lw_okq (⟨"BehaviorRunnerModel", "begins", "()V"⟩, 39) := ⟨⟨by decide +kernel, by decide +kernel⟩, List.mem_of_getElem? (i := 844) (by decide +kernel), List.mem_of_getElem? (i := 978) (by decide +kernel), List.mem_of_getElem? (i := 979) (by decide +kernel)⟩
theorem lw_p27 : lw_okq (⟨"BehaviorRunnerModel", "here", "()I"⟩, 39) := ⟨⟨by decide +kernel, by decide +kernel⟩, List.mem_of_getElem? (i := 844) (by decide +kernel), List.mem_of_getElem? (i := 982) (by decide +kernel), List.mem_of_getElem? (i := 983) (by decide +kernel)⟩
theorem lw_p28 : lw_okq (⟨"BehaviorRunnerModel", "digit", "(II)I"⟩, 39) := ⟨⟨by decide +kernel, by decide +kernel⟩, List.mem_of_getElem? (i := 844) (by decide +kernel), List.mem_of_getElem? (i := 989) (by decide +kernel), List.mem_of_getElem? (i := 990) (by decide +kernel)⟩
theorem lw_p29 : lw_okq (⟨"BehaviorRunnerModel", "deed", "(IZ)V"⟩, 39) := ⟨⟨by decide +kernel, by decide +kernel⟩, List.mem_of_getElem? (i := 844) (by decide +kernel), List.mem_of_getElem? (i := 993) (by decide +kernel), List.mem_of_getElem? (i := 994) (by decide +kernel)⟩
theorem lw_p30 : lw_okq (⟨"BehaviorRunnerModel", "sign", "(Z)I"⟩, 39) := ⟨⟨by decide +kernel, by decide +kernel⟩, List.mem_of_getElem? (i := 844) (by decide +kernel), List.mem_of_getElem? (i := 997) (by decide +kernel), List.mem_of_getElem? (i := 998) (by decide +kernel)⟩
theorem lw_p31 : lw_okq (⟨"BehaviorRunnerModel", "worth", "()I"⟩, 39) := ⟨⟨by decide +kernel, by decide +kernel⟩, List.mem_of_getElem? (i := 844) (by decide +kernel), List.mem_of_getElem? (i := 1001) (by decide +kernel), List.mem_of_getElem? (i := 1002) (by decide +kernel)⟩
def lw_privs_2 : List (MethodName × Nat) := [(⟨"BehaviorRunner$Walker", "endVisit", "(LBehaviorRunner$Node;I)V"⟩, 2), (⟨"BehaviorRunner$Walker", "goOn", "(LBehaviorRunner$Node;LBehaviorRunner$Node;I)I"⟩, 2), (⟨"BehaviorRunner$Walker", "goOnInList", "(LBehaviorRunner$Node;LBehaviorRunner$Node;II)I"⟩, 2), (⟨"BehaviorRunner$Walker", "countResult", "(LBehaviorRunner$Node;II)I"⟩, 2), (⟨"BehaviorRunner$Ledger", "placeOf", "(I)I"⟩, 11), (⟨"BehaviorRunner$Writer", "writeHead", "(LBehaviorRunner$Node;)V"⟩, 2), (⟨"BehaviorRunner$Writer", "hasNumber", "(LBehaviorRunner$Node;)Z"⟩, 2), (⟨"BehaviorRunner$Writer", "writeNumber", "(I)V"⟩, 2), (⟨"BehaviorRunner$Writer", "writeClause", "(LBehaviorRunner$Clause;)V"⟩, 2), (⟨"BehaviorRunner$Writer", "writeBehind", "(LBehaviorRunner$Node;)V"⟩, 2), (⟨"BehaviorRunnerModel", "begins", "()V"⟩, 39), (⟨"BehaviorRunnerModel", "here", "()I"⟩, 39), (⟨"BehaviorRunnerModel", "digit", "(II)I"⟩, 39), (⟨"BehaviorRunnerModel", "deed", "(IZ)V"⟩, 39), (⟨"BehaviorRunnerModel", "sign", "(Z)I"⟩, 39), (⟨"BehaviorRunnerModel", "worth", "()I"⟩, 39)]
theorem lw_r2 : ∀ q ∈ lw_privs_2, lw_okq q := List.forall_mem_cons.mpr ⟨lw_p16, List.forall_mem_cons.mpr ⟨lw_p17, List.forall_mem_cons.mpr ⟨lw_p18, List.forall_mem_cons.mpr ⟨lw_p19, List.forall_mem_cons.mpr ⟨lw_p20, List.forall_mem_cons.mpr ⟨lw_p21, List.forall_mem_cons.mpr ⟨lw_p22, List.forall_mem_cons.mpr ⟨lw_p23, List.forall_mem_cons.mpr ⟨lw_p24, List.forall_mem_cons.mpr ⟨lw_p25, List.forall_mem_cons.mpr ⟨lw_p26, List.forall_mem_cons.mpr ⟨lw_p27, List.forall_mem_cons.mpr ⟨lw_p28, List.forall_mem_cons.mpr ⟨lw_p29, List.forall_mem_cons.mpr ⟨lw_p30, List.forall_mem_cons.mpr ⟨lw_p31, fun _ h => absurd h List.not_mem_nil⟩⟩⟩⟩⟩⟩⟩⟩⟩⟩⟩⟩⟩⟩⟩⟩
theorem lw_p32 : lw_okq (⟨"BehaviorRunnerModel", "end", "(I)V"⟩, 39) := ⟨⟨by decide +kernel, by decide +kernel⟩, List.mem_of_getElem? (i := 844) (by decide +kernel), List.mem_of_getElem? (i := 1005) (by decide +kernel), List.mem_of_getElem? (i := 1006) (by decide +kernel)⟩
theorem lw_p33 : lw_okq (⟨"BehaviorRunnerModel", "goesUp", "()V"⟩, 39) := ⟨⟨by decide +kernel, by decide +kernel⟩, List.mem_of_getElem? (i := 844) (by decide +kernel), List.mem_of_getElem? (i := 1012) (by decide +kernel), List.mem_of_getElem? (i := 1013) (by decide +kernel)⟩
theorem lw_p34 : lw_okq (⟨"BehaviorRunnerModel", "place", "(II)I"⟩, 39) := ⟨⟨by decide +kernel, by decide +kernel⟩, List.mem_of_getElem? (i := 844) (by decide +kernel), List.mem_of_getElem? (i := 1024) (by decide +kernel), List.mem_of_getElem? (i := 1025) (by decide +kernel)⟩
theorem lw_p35 : lw_okq (⟨"BehaviorRunnerModel", "goes", "(I)I"⟩, 39) := ⟨⟨by decide +kernel, by decide +kernel⟩, List.mem_of_getElem? (i := 844) (by decide +kernel), List.mem_of_getElem? (i := 1032) (by decide +kernel), List.mem_of_getElem? (i := 1033) (by decide +kernel)⟩
theorem lw_p36 : lw_okq (⟨"BehaviorRunnerModel", "enters", "(I)I"⟩, 39) := ⟨⟨by decide +kernel, by decide +kernel⟩, List.mem_of_getElem? (i := 844) (by decide +kernel), List.mem_of_getElem? (i := 1036) (by decide +kernel), List.mem_of_getElem? (i := 1037) (by decide +kernel)⟩
theorem lw_p37 : lw_okq (⟨"BehaviorRunnerModel", "adds", "(II)V"⟩, 39) := ⟨⟨by decide +kernel, by decide +kernel⟩, List.mem_of_getElem? (i := 844) (by decide +kernel), List.mem_of_getElem? (i := 1040) (by decide +kernel), List.mem_of_getElem? (i := 1041) (by decide +kernel)⟩
theorem lw_p38 : lw_okq (⟨"BehaviorRunnerModel", "of", "(II)I"⟩, 39) := ⟨⟨by decide +kernel, by decide +kernel⟩, List.mem_of_getElem? (i := 844) (by decide +kernel), List.mem_of_getElem? (i := 1044) (by decide +kernel), List.mem_of_getElem? (i := 1045) (by decide +kernel)⟩
theorem lw_p39 : lw_okq (⟨"BehaviorRunnerModel", "sets", "(III)V"⟩, 39) := ⟨⟨by decide +kernel, by decide +kernel⟩, List.mem_of_getElem? (i := 844) (by decide +kernel), List.mem_of_getElem? (i := 1048) (by decide +kernel), List.mem_of_getElem? (i := 1049) (by decide +kernel)⟩
theorem lw_p40 : lw_okq (⟨"BehaviorRunnerModel", "acts", "(I)I"⟩, 39) := ⟨⟨by decide +kernel, by decide +kernel⟩, List.mem_of_getElem? (i := 844) (by decide +kernel), List.mem_of_getElem? (i := 1052) (by decide +kernel), List.mem_of_getElem? (i := 1053) (by decide +kernel)⟩
theorem lw_p41 : lw_okq (⟨"BehaviorRunnerModel", "does", "(IIII)V"⟩, 39) := ⟨⟨by decide +kernel, by decide +kernel⟩, List.mem_of_getElem? (i := 844) (by decide +kernel), List.mem_of_getElem? (i := 1056) (by decide +kernel), List.mem_of_getElem? (i := 1057) (by decide +kernel)⟩
theorem lw_p42 : lw_okq (⟨"BehaviorRunnerModel", "holds", "(I)Z"⟩, 39) := ⟨⟨by decide +kernel, by decide +kernel⟩, List.mem_of_getElem? (i := 844) (by decide +kernel), List.mem_of_getElem? (i := 1060) (by decide +kernel), List.mem_of_getElem? (i := 1061) (by decide +kernel)⟩
theorem lw_p43 : lw_okq (⟨"BehaviorRunnerModel", "asks", "(II)I"⟩, 39) := ⟨⟨by decide +kernel, by decide +kernel⟩, List.mem_of_getElem? (i := 844) (by decide +kernel), List.mem_of_getElem? (i := 1064) (by decide +kernel), List.mem_of_getElem? (i := 1065) (by decide +kernel)⟩
theorem lw_p44 : lw_okq (⟨"BehaviorRunnerModel", "childOf", "(II)I"⟩, 39) := ⟨⟨by decide +kernel, by decide +kernel⟩, List.mem_of_getElem? (i := 844) (by decide +kernel), List.mem_of_getElem? (i := 1068) (by decide +kernel), List.mem_of_getElem? (i := 1069) (by decide +kernel)⟩
theorem lw_p45 : lw_okq (⟨"BehaviorRunnerModel", "goesOn", "(I)I"⟩, 39) := ⟨⟨by decide +kernel, by decide +kernel⟩, List.mem_of_getElem? (i := 844) (by decide +kernel), List.mem_of_getElem? (i := 1072) (by decide +kernel), List.mem_of_getElem? (i := 1073) (by decide +kernel)⟩
theorem lw_p46 : lw_okq (⟨"BehaviorRunnerModel", "children", "(I)I"⟩, 39) := ⟨⟨by decide +kernel, by decide +kernel⟩, List.mem_of_getElem? (i := 844) (by decide +kernel), List.mem_of_getElem? (i := 1076) (by decide +kernel), List.mem_of_getElem? (i := 1077) (by decide +kernel)⟩
theorem lw_p47 : lw_okq (⟨"BehaviorRunnerModel", "aborts", "(I)I"⟩, 39) := ⟨⟨by decide +kernel, by decide +kernel⟩, List.mem_of_getElem? (i := 844) (by decide +kernel), List.mem_of_getElem? (i := 1083) (by decide +kernel), List.mem_of_getElem? (i := 1084) (by decide +kernel)⟩
def lw_privs_3 : List (MethodName × Nat) := [(⟨"BehaviorRunnerModel", "end", "(I)V"⟩, 39), (⟨"BehaviorRunnerModel", "goesUp", "()V"⟩, 39), (⟨"BehaviorRunnerModel", "place", "(II)I"⟩, 39), (⟨"BehaviorRunnerModel", "goes", "(I)I"⟩, 39), (⟨"BehaviorRunnerModel", "enters", "(I)I"⟩, 39), (⟨"BehaviorRunnerModel", "adds", "(II)V"⟩, 39), (⟨"BehaviorRunnerModel", "of", "(II)I"⟩, 39), (⟨"BehaviorRunnerModel", "sets", "(III)V"⟩, 39), (⟨"BehaviorRunnerModel", "acts", "(I)I"⟩, 39), (⟨"BehaviorRunnerModel", "does", "(IIII)V"⟩, 39), (⟨"BehaviorRunnerModel", "holds", "(I)Z"⟩, 39), (⟨"BehaviorRunnerModel", "asks", "(II)I"⟩, 39), (⟨"BehaviorRunnerModel", "childOf", "(II)I"⟩, 39), (⟨"BehaviorRunnerModel", "goesOn", "(I)I"⟩, 39), (⟨"BehaviorRunnerModel", "children", "(I)I"⟩, 39), (⟨"BehaviorRunnerModel", "aborts", "(I)I"⟩, 39)]
theorem lw_r3 : ∀ q ∈ lw_privs_3, lw_okq q := List.forall_mem_cons.mpr ⟨lw_p32, List.forall_mem_cons.mpr ⟨lw_p33, List.forall_mem_cons.mpr ⟨lw_p34, List.forall_mem_cons.mpr ⟨lw_p35, List.forall_mem_cons.mpr ⟨lw_p36, List.forall_mem_cons.mpr ⟨lw_p37, List.forall_mem_cons.mpr ⟨lw_p38, List.forall_mem_cons.mpr ⟨lw_p39, List.forall_mem_cons.mpr ⟨lw_p40, List.forall_mem_cons.mpr ⟨lw_p41, List.forall_mem_cons.mpr ⟨lw_p42, List.forall_mem_cons.mpr ⟨lw_p43, List.forall_mem_cons.mpr ⟨lw_p44, List.forall_mem_cons.mpr ⟨lw_p45, List.forall_mem_cons.mpr ⟨lw_p46, List.forall_mem_cons.mpr ⟨lw_p47, fun _ h => absurd h List.not_mem_nil⟩⟩⟩⟩⟩⟩⟩⟩⟩⟩⟩⟩⟩⟩⟩⟩
theorem lw_p48 : lw_okq (⟨"BehaviorRunnerModel", "tells", "(II)V"⟩, 39) := ⟨⟨by decide +kernel, by decide +kernel⟩, List.mem_of_getElem? (i := 844) (by decide +kernel), List.mem_of_getElem? (i := 1087) (by decide +kernel), List.mem_of_getElem? (i := 1088) (by decide +kernel)⟩
theorem lw_p49 : lw_okq (⟨"BehaviorRunnerModel", "ends", "(I)V"⟩, 39) := ⟨⟨by decide +kernel, by decide +kernel⟩, List.mem_of_getElem? (i := 844) (by decide +kernel), List.mem_of_getElem? (i := 1091) (by decide +kernel), List.mem_of_getElem? (i := 1092) (by decide +kernel)⟩
theorem lw_p50 : lw_okq (⟨"BehaviorRunnerModel", "leaves", "(II)V"⟩, 39) := ⟨⟨by decide +kernel, by decide +kernel⟩, List.mem_of_getElem? (i := 844) (by decide +kernel), List.mem_of_getElem? (i := 1095) (by decide +kernel), List.mem_of_getElem? (i := 1096) (by decide +kernel)⟩
theorem lw_p51 : lw_okq (⟨"BehaviorRunnerModel", "ticked", "(I)I"⟩, 39) := ⟨⟨by decide +kernel, by decide +kernel⟩, List.mem_of_getElem? (i := 844) (by decide +kernel), List.mem_of_getElem? (i := 1099) (by decide +kernel), List.mem_of_getElem? (i := 1100) (by decide +kernel)⟩
theorem lw_p52 : lw_okq (⟨"BehaviorRunnerModel", "hears", "(II)I"⟩, 39) := ⟨⟨by decide +kernel, by decide +kernel⟩, List.mem_of_getElem? (i := 844) (by decide +kernel), List.mem_of_getElem? (i := 1103) (by decide +kernel), List.mem_of_getElem? (i := 1104) (by decide +kernel)⟩
theorem lw_p53 : lw_okq (⟨"BehaviorRunnerModel", "counts", "(III)I"⟩, 39) := ⟨⟨by decide +kernel, by decide +kernel⟩, List.mem_of_getElem? (i := 844) (by decide +kernel), List.mem_of_getElem? (i := 1107) (by decide +kernel), List.mem_of_getElem? (i := 1108) (by decide +kernel)⟩
theorem lw_p54 : lw_okq (⟨"BehaviorRunnerModel", "runs", "(I)I"⟩, 39) := ⟨⟨by decide +kernel, by decide +kernel⟩, List.mem_of_getElem? (i := 844) (by decide +kernel), List.mem_of_getElem? (i := 1115) (by decide +kernel), List.mem_of_getElem? (i := 1116) (by decide +kernel)⟩
theorem lw_p55 : lw_okq (⟨"BehaviorRunnerModel", "writesNode", "(I)V"⟩, 39) := ⟨⟨by decide +kernel, by decide +kernel⟩, List.mem_of_getElem? (i := 844) (by decide +kernel), List.mem_of_getElem? (i := 1162) (by decide +kernel), List.mem_of_getElem? (i := 1163) (by decide +kernel)⟩
theorem lw_p56 : lw_okq (⟨"BehaviorRunnerModel", "writes", "(I)V"⟩, 39) := ⟨⟨by decide +kernel, by decide +kernel⟩, List.mem_of_getElem? (i := 844) (by decide +kernel), List.mem_of_getElem? (i := 1169) (by decide +kernel), List.mem_of_getElem? (i := 1170) (by decide +kernel)⟩
theorem lw_p57 : lw_okq (⟨"BehaviorRunnerModel", "writesDeed", "(III)V"⟩, 39) := ⟨⟨by decide +kernel, by decide +kernel⟩, List.mem_of_getElem? (i := 844) (by decide +kernel), List.mem_of_getElem? (i := 1173) (by decide +kernel), List.mem_of_getElem? (i := 1174) (by decide +kernel)⟩
def lw_privs_4 : List (MethodName × Nat) := [(⟨"BehaviorRunnerModel", "tells", "(II)V"⟩, 39), (⟨"BehaviorRunnerModel", "ends", "(I)V"⟩, 39), (⟨"BehaviorRunnerModel", "leaves", "(II)V"⟩, 39), (⟨"BehaviorRunnerModel", "ticked", "(I)I"⟩, 39), (⟨"BehaviorRunnerModel", "hears", "(II)I"⟩, 39), (⟨"BehaviorRunnerModel", "counts", "(III)I"⟩, 39), (⟨"BehaviorRunnerModel", "runs", "(I)I"⟩, 39), (⟨"BehaviorRunnerModel", "writesNode", "(I)V"⟩, 39), (⟨"BehaviorRunnerModel", "writes", "(I)V"⟩, 39), (⟨"BehaviorRunnerModel", "writesDeed", "(III)V"⟩, 39)]
theorem lw_r4 : ∀ q ∈ lw_privs_4, lw_okq q := List.forall_mem_cons.mpr ⟨lw_p48, List.forall_mem_cons.mpr ⟨lw_p49, List.forall_mem_cons.mpr ⟨lw_p50, List.forall_mem_cons.mpr ⟨lw_p51, List.forall_mem_cons.mpr ⟨lw_p52, List.forall_mem_cons.mpr ⟨lw_p53, List.forall_mem_cons.mpr ⟨lw_p54, List.forall_mem_cons.mpr ⟨lw_p55, List.forall_mem_cons.mpr ⟨lw_p56, List.forall_mem_cons.mpr ⟨lw_p57, fun _ h => absurd h List.not_mem_nil⟩⟩⟩⟩⟩⟩⟩⟩⟩⟩
def lw_privs : List (MethodName × Nat) := lw_privs_1 ++ (lw_privs_2 ++ (lw_privs_3 ++ (lw_privs_4)))
def lw_tbl : List Cond := k2_sels lw_privs ++ tables_1
theorem lw_privs_ok : ∀ q ∈ lw_privs, lw_okq q := by
  show ∀ q ∈ lw_privs_1 ++ (lw_privs_2 ++ (lw_privs_3 ++ (lw_privs_4))), lw_okq q
  exact List.forall_mem_append.mpr ⟨lw_r1, List.forall_mem_append.mpr ⟨lw_r2, List.forall_mem_append.mpr ⟨lw_r3, lw_r4⟩⟩⟩
end
section
theorem goodIn_r {big : List Cond} (ws : List Cond) (ps : List Nat) (hp : ws = ps.filterMap (fun i => big[i]?)) (h : ws.all goodWord = true) : GoodIn big ws := by
  intro w hw
  have h1 := List.all_eq_true.mp h w hw
  rw [hp] at hw
  obtain ⟨i, -, hi⟩ := List.mem_filterMap.mp hw
  have hm : w ∈ big := by first | exact List.mem_of_getElem? hi | exact List.getElem?_mem hi
  exact ⟨hm, good_of_word h1⟩
theorem goodIn_app {big a b : List Cond} (ha : GoodIn big a) (hb : GoodIn big b) : GoodIn big (a ++ b) := fun w h => (List.mem_append.mp h).elim (ha w) (hb w)
theorem goodIn_ca {big a b : List Cond} {c : Cond} (ha : GoodIn big (c :: a)) (hb : GoodIn big b) : GoodIn big (c :: (a ++ b)) := fun w h => (List.mem_cons.mp h).elim (fun e => ha w (List.mem_cons.mpr (Or.inl e))) (fun h => (List.mem_append.mp h).elim (fun h => ha w (List.mem_cons.mpr (Or.inr h))) (hb w))
theorem goodIn_sub {big ws : List Cond} (hm : ∀ w ∈ ws, w ∈ big) (h : ws.all goodWord = true) : GoodIn big ws := fun w hw => ⟨hm w hw, good_of_word (List.all_eq_true.mp h w hw)⟩
def RX0 : String := "BehaviorRunner$Board"
def TX0 : u_T := fun k => match k with
  | _ => ("BehaviorRunner$Board", "globals", "[I", true)
def tyX0 : Nat → FieldType := fun k => match k with
  | _ => .array .int
abbrev wsX00 : List Cond := u_ws RX0 TX0 1
theorem nmX0 : ∀ a, a < 1 → ∀ b, b < 1 → a ≠ b → (TX0 a).2.1 ≠ (TX0 b).2.1 := by decide +kernel
theorem tyX0_ok : ∀ k, k < 1 → parseFieldDescriptor (TX0 k).2.2.1 = some (tyX0 k) := by decide +kernel
abbrev cX0_init : ByteArray := prog_2_method_1_code
def yX0_init : MethodName := ⟨RX0, "<init>", "()V"⟩
abbrev cX0_copyFrom : ByteArray := prog_2_method_2_code
def yX0_copyFrom : MethodName := ⟨RX0, "copyFrom", "(LBehaviorRunner$Board;)V"⟩
abbrev cX0_valueIn : ByteArray := prog_2_method_3_code
def yX0_valueIn : MethodName := ⟨RX0, "valueIn", "(LBehaviorRunner$Node;I)I"⟩
abbrev cX0_put : ByteArray := prog_2_method_4_code
def yX0_put : MethodName := ⟨RX0, "put", "(LBehaviorRunner$Node;II)V"⟩
abbrev cX0_change : ByteArray := prog_2_method_5_code
def yX0_change : MethodName := ⟨RX0, "change", "(LBehaviorRunner$Clause;)V"⟩
abbrev cX0_fulfils : ByteArray := prog_2_method_6_code
def yX0_fulfils : MethodName := ⟨RX0, "fulfils", "(LBehaviorRunner$Clause;)Z"⟩
def RX1 : String := "BehaviorRunner$Clause"
def TX1 : u_T := fun k => match k with
  | 0 => ("BehaviorRunner$Clause", "present", "Z", false)
  | 1 => ("BehaviorRunner$Clause", "key", "I", false)
  | 2 => ("BehaviorRunner$Clause", "sign", "C", false)
  | 3 => ("BehaviorRunner$Clause", "number", "I", false)
  | _ => ("BehaviorRunner$Clause", "scope", "LBehaviorRunner$Node;", false)
def tyX1 : Nat → FieldType := fun k => match k with
  | 0 => .boolean
  | 1 => .int
  | 2 => .char
  | 3 => .int
  | _ => .object "BehaviorRunner$Node"
abbrev wsX10 : List Cond := u_ws RX1 TX1 5
theorem nmX1 : ∀ a, a < 5 → ∀ b, b < 5 → a ≠ b → (TX1 a).2.1 ≠ (TX1 b).2.1 := by decide +kernel
theorem tyX1_ok : ∀ k, k < 5 → parseFieldDescriptor (TX1 k).2.2.1 = some (tyX1 k) := by decide +kernel
abbrev cX1_init : ByteArray := prog_3_method_1_code
def yX1_init : MethodName := ⟨RX1, "<init>", "()V"⟩
abbrev cX1_clear : ByteArray := prog_3_method_2_code
def yX1_clear : MethodName := ⟨RX1, "clear", "()V"⟩
def RX2 : String := "BehaviorRunner$Ledger"
def TX2 : u_T := fun k => match k with
  | 0 => ("BehaviorRunner$Ledger", "next", "LBehaviorRunner$Node;", false)
  | 1 => ("BehaviorRunner$Ledger", "ticks", "I", false)
  | 2 => ("BehaviorRunner$Ledger", "successes", "I", false)
  | 3 => ("BehaviorRunner$Ledger", "failures", "I", false)
  | 4 => ("BehaviorRunner$Ledger", "visits", "I", false)
  | 5 => ("BehaviorRunner$Ledger", "aborts", "I", false)
  | 6 => ("BehaviorRunner$Ledger", "ends", "I", false)
  | 7 => ("BehaviorRunner$Ledger", "suspensions", "I", false)
  | 8 => ("BehaviorRunner$Ledger", "traced", "I", false)
  | 9 => ("BehaviorRunner$Ledger", "tracedNodes", "[I", true)
  | _ => ("BehaviorRunner$Ledger", "tracedResults", "[I", true)
def tyX2 : Nat → FieldType := fun k => match k with
  | 0 => .object "BehaviorRunner$Node"
  | 1 => .int
  | 2 => .int
  | 3 => .int
  | 4 => .int
  | 5 => .int
  | 6 => .int
  | 7 => .int
  | 8 => .int
  | 9 => .array .int
  | _ => .array .int
abbrev wsX20 : List Cond := u_ws RX2 TX2 11
theorem nmX2 : ∀ a, a < 11 → ∀ b, b < 11 → a ≠ b → (TX2 a).2.1 ≠ (TX2 b).2.1 := by decide +kernel
theorem tyX2_ok : ∀ k, k < 11 → parseFieldDescriptor (TX2 k).2.2.1 = some (tyX2 k) := by decide +kernel
abbrev cX2_init : ByteArray := prog_4_method_1_code
def yX2_init : MethodName := ⟨RX2, "<init>", "()V"⟩
abbrev cX2_clear : ByteArray := prog_4_method_2_code
def yX2_clear : MethodName := ⟨RX2, "clear", "()V"⟩
abbrev cX2_copyFrom : ByteArray := prog_4_method_3_code
def yX2_copyFrom : MethodName := ⟨RX2, "copyFrom", "(LBehaviorRunner$Ledger;)V"⟩
abbrev cX2_endTick : ByteArray := prog_4_method_4_code
def yX2_endTick : MethodName := ⟨RX2, "endTick", "(I)V"⟩
abbrev cX2_enter : ByteArray := prog_4_method_5_code
def yX2_enter : MethodName := ⟨RX2, "enter", "(LBehaviorRunner$Node;I)V"⟩
abbrev cX2_entries : ByteArray := prog_4_method_6_code
def yX2_entries : MethodName := ⟨RX2, "entries", "()I"⟩
abbrev cX2_tracedNode : ByteArray := prog_4_method_7_code
def yX2_tracedNode : MethodName := ⟨RX2, "tracedNode", "(I)I"⟩
abbrev cX2_tracedResult : ByteArray := prog_4_method_8_code
def yX2_tracedResult : MethodName := ⟨RX2, "tracedResult", "(I)I"⟩
abbrev cX2_placeOf : ByteArray := prog_4_method_9_code
def yX2_placeOf : MethodName := ⟨RX2, "placeOf", "(I)I"⟩
def RX3 : String := "BehaviorRunner$Life"
def TX3 : u_T := fun k => match k with
  | 0 => ("BehaviorRunner$Life", "running", "Z", false)
  | 1 => ("BehaviorRunner$Life", "counted", "I", false)
  | 2 => ("BehaviorRunner$Life", "current", "LBehaviorRunner$Node;", false)
  | 3 => ("BehaviorRunner$Life", "latest", "I", false)
  | 4 => ("BehaviorRunner$Life", "local", "I", false)
  | 5 => ("BehaviorRunner$Life", "runs", "I", false)
  | 6 => ("BehaviorRunner$Life", "successes", "I", false)
  | 7 => ("BehaviorRunner$Life", "failures", "I", false)
  | 8 => ("BehaviorRunner$Life", "aborts", "I", false)
  | _ => ("BehaviorRunner$Life", "visits", "I", false)
def tyX3 : Nat → FieldType := fun k => match k with
  | 0 => .boolean
  | 1 => .int
  | 2 => .object "BehaviorRunner$Node"
  | 3 => .int
  | 4 => .int
  | 5 => .int
  | 6 => .int
  | 7 => .int
  | 8 => .int
  | _ => .int
abbrev wsX30 : List Cond := u_ws RX3 TX3 10
theorem nmX3 : ∀ a, a < 10 → ∀ b, b < 10 → a ≠ b → (TX3 a).2.1 ≠ (TX3 b).2.1 := by decide +kernel
theorem tyX3_ok : ∀ k, k < 10 → parseFieldDescriptor (TX3 k).2.2.1 = some (tyX3 k) := by decide +kernel
abbrev cX3_init : ByteArray := prog_5_method_1_code
def yX3_init : MethodName := ⟨RX3, "<init>", "()V"⟩
abbrev cX3_clear : ByteArray := prog_5_method_2_code
def yX3_clear : MethodName := ⟨RX3, "clear", "()V"⟩
abbrev cX3_copyFrom : ByteArray := prog_5_method_3_code
def yX3_copyFrom : MethodName := ⟨RX3, "copyFrom", "(LBehaviorRunner$Life;)V"⟩
def RX4 : String := "BehaviorRunner$Node"
def TX4 : u_T := fun k => match k with
  | 0 => ("BehaviorRunner$Node", "index", "I", true)
  | 1 => ("BehaviorRunner$Node", "clause", "LBehaviorRunner$Clause;", true)
  | 2 => ("BehaviorRunner$Node", "end", "LBehaviorRunner$Clause;", true)
  | 3 => ("BehaviorRunner$Node", "life", "LBehaviorRunner$Life;", true)
  | 4 => ("BehaviorRunner$Node", "kind", "I", false)
  | 5 => ("BehaviorRunner$Node", "number", "I", false)
  | 6 => ("BehaviorRunner$Node", "depth", "I", false)
  | 7 => ("BehaviorRunner$Node", "children", "I", false)
  | 8 => ("BehaviorRunner$Node", "before", "LBehaviorRunner$Node;", false)
  | 9 => ("BehaviorRunner$Node", "parent", "LBehaviorRunner$Node;", false)
  | 10 => ("BehaviorRunner$Node", "firstChild", "LBehaviorRunner$Node;", false)
  | 11 => ("BehaviorRunner$Node", "lastChild", "LBehaviorRunner$Node;", false)
  | 12 => ("BehaviorRunner$Node", "nextSibling", "LBehaviorRunner$Node;", false)
  | _ => ("BehaviorRunner$Node", "lastBelow", "LBehaviorRunner$Node;", false)
def tyX4 : Nat → FieldType := fun k => match k with
  | 0 => .int
  | 1 => .object "BehaviorRunner$Clause"
  | 2 => .object "BehaviorRunner$Clause"
  | 3 => .object "BehaviorRunner$Life"
  | 4 => .int
  | 5 => .int
  | 6 => .int
  | 7 => .int
  | 8 => .object "BehaviorRunner$Node"
  | 9 => .object "BehaviorRunner$Node"
  | 10 => .object "BehaviorRunner$Node"
  | 11 => .object "BehaviorRunner$Node"
  | 12 => .object "BehaviorRunner$Node"
  | _ => .object "BehaviorRunner$Node"
abbrev wsX40 : List Cond := u_ws RX4 TX4 14
theorem nmX4 : ∀ a, a < 14 → ∀ b, b < 14 → a ≠ b → (TX4 a).2.1 ≠ (TX4 b).2.1 := by decide +kernel
theorem tyX4_ok : ∀ k, k < 14 → parseFieldDescriptor (TX4 k).2.2.1 = some (tyX4 k) := by decide +kernel
abbrev cX4_init : ByteArray := prog_6_method_1_code
def yX4_init : MethodName := ⟨RX4, "<init>", "(I)V"⟩
abbrev cX4_reset : ByteArray := prog_6_method_2_code
def yX4_reset : MethodName := ⟨RX4, "reset", "(ILBehaviorRunner$Node;LBehaviorRunner$Node;)V"⟩
abbrev cX4_adopt : ByteArray := prog_6_method_3_code
def yX4_adopt : MethodName := ⟨RX4, "adopt", "(LBehaviorRunner$Node;)V"⟩
abbrev cX4_hasList : ByteArray := prog_6_method_4_code
def yX4_hasList : MethodName := ⟨RX4, "hasList", "()Z"⟩
abbrev cX4_isReactive : ByteArray := prog_6_method_5_code
def yX4_isReactive : MethodName := ⟨RX4, "isReactive", "()Z"⟩
abbrev cX4_scopeOf : ByteArray := prog_6_method_6_code
def yX4_scopeOf : MethodName := ⟨RX4, "scopeOf", "(I)LBehaviorRunner$Node;"⟩
def RX5 : String := "BehaviorRunner$Parser"
def TX5 : u_T := fun k => match k with
  | 0 => ("BehaviorRunner$Parser", "text", "LBehaviorRunner$Text;", true)
  | 1 => ("BehaviorRunner$Parser", "tree", "LBehaviorRunner$Tree;", true)
  | _ => ("BehaviorRunner$Parser", "offset", "I", false)
def tyX5 : Nat → FieldType := fun k => match k with
  | 0 => .object "BehaviorRunner$Text"
  | 1 => .object "BehaviorRunner$Tree"
  | _ => .int
abbrev wsX50 : List Cond := u_ws RX5 TX5 3
theorem nmX5 : ∀ a, a < 3 → ∀ b, b < 3 → a ≠ b → (TX5 a).2.1 ≠ (TX5 b).2.1 := by decide +kernel
theorem tyX5_ok : ∀ k, k < 3 → parseFieldDescriptor (TX5 k).2.2.1 = some (tyX5 k) := by decide +kernel
abbrev cX5_init : ByteArray := prog_7_method_1_code
def yX5_init : MethodName := ⟨RX5, "<init>", "(LBehaviorRunner$Text;LBehaviorRunner$Tree;)V"⟩
abbrev cX5_parse : ByteArray := prog_7_method_2_code
def yX5_parse : MethodName := ⟨RX5, "parse", "()I"⟩
abbrev cX5_readNode : ByteArray := prog_7_method_3_code
def yX5_readNode : MethodName := ⟨RX5, "readNode", "(LBehaviorRunner$Node;I)Z"⟩
abbrev cX5_readRest : ByteArray := prog_7_method_4_code
def yX5_readRest : MethodName := ⟨RX5, "readRest", "(LBehaviorRunner$Node;I)Z"⟩
abbrev cX5_readList : ByteArray := prog_7_method_5_code
def yX5_readList : MethodName := ⟨RX5, "readList", "(LBehaviorRunner$Node;I)Z"⟩
abbrev cX5_readNumber : ByteArray := prog_7_method_6_code
def yX5_readNumber : MethodName := ⟨RX5, "readNumber", "(LBehaviorRunner$Node;II)Z"⟩
abbrev cX5_readEffects : ByteArray := prog_7_method_7_code
def yX5_readEffects : MethodName := ⟨RX5, "readEffects", "(LBehaviorRunner$Node;)Z"⟩
abbrev cX5_readClause : ByteArray := prog_7_method_8_code
def yX5_readClause : MethodName := ⟨RX5, "readClause", "(LBehaviorRunner$Node;LBehaviorRunner$Clause;Ljava/lang/String;)Z"⟩
abbrev cX5_readDigit : ByteArray := prog_7_method_9_code
def yX5_readDigit : MethodName := ⟨RX5, "readDigit", "(II)I"⟩
abbrev cX5_skip : ByteArray := prog_7_method_10_code
def yX5_skip : MethodName := ⟨RX5, "skip", "(C)Z"⟩
abbrev cX5_placeIn : ByteArray := prog_7_method_11_code
def yX5_placeIn : MethodName := ⟨RX5, "placeIn", "(Ljava/lang/String;)I"⟩
def RX6 : String := "BehaviorRunner$Snapshot"
def TX6 : u_T := fun k => match k with
  | 0 => ("BehaviorRunner$Snapshot", "lives", "[LBehaviorRunner$Life;", true)
  | 1 => ("BehaviorRunner$Snapshot", "board", "LBehaviorRunner$Board;", true)
  | _ => ("BehaviorRunner$Snapshot", "ledger", "LBehaviorRunner$Ledger;", true)
def tyX6 : Nat → FieldType := fun k => match k with
  | 0 => .array (.object "BehaviorRunner$Life")
  | 1 => .object "BehaviorRunner$Board"
  | _ => .object "BehaviorRunner$Ledger"
abbrev wsX60 : List Cond := u_ws RX6 TX6 3
theorem nmX6 : ∀ a, a < 3 → ∀ b, b < 3 → a ≠ b → (TX6 a).2.1 ≠ (TX6 b).2.1 := by decide +kernel
theorem tyX6_ok : ∀ k, k < 3 → parseFieldDescriptor (TX6 k).2.2.1 = some (tyX6 k) := by decide +kernel
abbrev cX6_init : ByteArray := prog_8_method_1_code
def yX6_init : MethodName := ⟨RX6, "<init>", "()V"⟩
abbrev cX6_take : ByteArray := prog_8_method_2_code
def yX6_take : MethodName := ⟨RX6, "take", "(LBehaviorRunner$Tree;LBehaviorRunner$Board;LBehaviorRunner$Ledger;)V"⟩
abbrev cX6_giveBack : ByteArray := prog_8_method_3_code
def yX6_giveBack : MethodName := ⟨RX6, "giveBack", "(LBehaviorRunner$Tree;LBehaviorRunner$Board;LBehaviorRunner$Ledger;)V"⟩
def RX7 : String := "BehaviorRunner$Text"
def TX7 : u_T := fun k => match k with
  | 0 => ("BehaviorRunner$Text", "characters", "[C", true)
  | _ => ("BehaviorRunner$Text", "length", "I", false)
def tyX7 : Nat → FieldType := fun k => match k with
  | 0 => .array .char
  | _ => .int
abbrev wsX70 : List Cond := u_ws RX7 TX7 2
theorem nmX7 : ∀ a, a < 2 → ∀ b, b < 2 → a ≠ b → (TX7 a).2.1 ≠ (TX7 b).2.1 := by decide +kernel
theorem tyX7_ok : ∀ k, k < 2 → parseFieldDescriptor (TX7 k).2.2.1 = some (tyX7 k) := by decide +kernel
abbrev cX7_init : ByteArray := prog_9_method_1_code
def yX7_init : MethodName := ⟨RX7, "<init>", "()V"⟩
abbrev cX7_clear : ByteArray := prog_9_method_2_code
def yX7_clear : MethodName := ⟨RX7, "clear", "()V"⟩
abbrev cX7_add : ByteArray := prog_9_method_3_code
def yX7_add : MethodName := ⟨RX7, "add", "(C)V"⟩
abbrev cX7_codeAt : ByteArray := prog_9_method_4_code
def yX7_codeAt : MethodName := ⟨RX7, "codeAt", "(I)I"⟩
def RX8 : String := "BehaviorRunner$Tree"
def TX8 : u_T := fun k => match k with
  | 0 => ("BehaviorRunner$Tree", "nodes", "[LBehaviorRunner$Node;", true)
  | _ => ("BehaviorRunner$Tree", "size", "I", false)
def tyX8 : Nat → FieldType := fun k => match k with
  | 0 => .array (.object "BehaviorRunner$Node")
  | _ => .int
abbrev wsX80 : List Cond := u_ws RX8 TX8 2
theorem nmX8 : ∀ a, a < 2 → ∀ b, b < 2 → a ≠ b → (TX8 a).2.1 ≠ (TX8 b).2.1 := by decide +kernel
theorem tyX8_ok : ∀ k, k < 2 → parseFieldDescriptor (TX8 k).2.2.1 = some (tyX8 k) := by decide +kernel
abbrev cX8_init : ByteArray := prog_10_method_1_code
def yX8_init : MethodName := ⟨RX8, "<init>", "()V"⟩
abbrev cX8_nodeAt : ByteArray := prog_10_method_2_code
def yX8_nodeAt : MethodName := ⟨RX8, "nodeAt", "(I)LBehaviorRunner$Node;"⟩
abbrev cX8_grow : ByteArray := prog_10_method_3_code
def yX8_grow : MethodName := ⟨RX8, "grow", "(ILBehaviorRunner$Node;)LBehaviorRunner$Node;"⟩
abbrev cX8_runningNodes : ByteArray := prog_10_method_4_code
def yX8_runningNodes : MethodName := ⟨RX8, "runningNodes", "()I"⟩
def RX9 : String := "BehaviorRunner$Walker"
def TX9 : u_T := fun k => match k with
  | 0 => ("BehaviorRunner$Walker", "board", "LBehaviorRunner$Board;", true)
  | _ => ("BehaviorRunner$Walker", "ledger", "LBehaviorRunner$Ledger;", true)
def tyX9 : Nat → FieldType := fun k => match k with
  | 0 => .object "BehaviorRunner$Board"
  | _ => .object "BehaviorRunner$Ledger"
abbrev wsX90 : List Cond := u_ws RX9 TX9 2
theorem nmX9 : ∀ a, a < 2 → ∀ b, b < 2 → a ≠ b → (TX9 a).2.1 ≠ (TX9 b).2.1 := by decide +kernel
theorem tyX9_ok : ∀ k, k < 2 → parseFieldDescriptor (TX9 k).2.2.1 = some (tyX9 k) := by decide +kernel
abbrev cX9_init : ByteArray := prog_11_method_1_code
def yX9_init : MethodName := ⟨RX9, "<init>", "()V"⟩
abbrev cX9_perform : ByteArray := prog_11_method_2_code
def yX9_perform : MethodName := ⟨RX9, "perform", "(LBehaviorRunner$Node;I)I"⟩
abbrev cX9_stopBack : ByteArray := prog_11_method_3_code
def yX9_stopBack : MethodName := ⟨RX9, "stopBack", "(LBehaviorRunner$Node;LBehaviorRunner$Node;)V"⟩
abbrev cX9_endRun : ByteArray := prog_11_method_4_code
def yX9_endRun : MethodName := ⟨RX9, "endRun", "(LBehaviorRunner$Node;I)V"⟩
abbrev cX9_beginVisit : ByteArray := prog_11_method_5_code
def yX9_beginVisit : MethodName := ⟨RX9, "beginVisit", "(LBehaviorRunner$Node;)I"⟩
abbrev cX9_beginRun : ByteArray := prog_11_method_6_code
def yX9_beginRun : MethodName := ⟨RX9, "beginRun", "(LBehaviorRunner$Node;)V"⟩
abbrev cX9_act : ByteArray := prog_11_method_7_code
def yX9_act : MethodName := ⟨RX9, "act", "(LBehaviorRunner$Node;I)I"⟩
abbrev cX9_goDown : ByteArray := prog_11_method_8_code
def yX9_goDown : MethodName := ⟨RX9, "goDown", "(LBehaviorRunner$Node;)I"⟩
abbrev cX9_goDownIf : ByteArray := prog_11_method_9_code
def yX9_goDownIf : MethodName := ⟨RX9, "goDownIf", "(ZLBehaviorRunner$Node;)I"⟩
abbrev cX9_endVisit : ByteArray := prog_11_method_10_code
def yX9_endVisit : MethodName := ⟨RX9, "endVisit", "(LBehaviorRunner$Node;I)V"⟩
abbrev cX9_goOn : ByteArray := prog_11_method_11_code
def yX9_goOn : MethodName := ⟨RX9, "goOn", "(LBehaviorRunner$Node;LBehaviorRunner$Node;I)I"⟩
abbrev cX9_goOnInList : ByteArray := prog_11_method_12_code
def yX9_goOnInList : MethodName := ⟨RX9, "goOnInList", "(LBehaviorRunner$Node;LBehaviorRunner$Node;II)I"⟩
abbrev cX9_goOnInParallel : ByteArray := prog_11_method_13_code
def yX9_goOnInParallel : MethodName := ⟨RX9, "goOnInParallel", "(LBehaviorRunner$Node;LBehaviorRunner$Node;)I"⟩
abbrev cX9_countResult : ByteArray := prog_11_method_14_code
def yX9_countResult : MethodName := ⟨RX9, "countResult", "(LBehaviorRunner$Node;II)I"⟩
def RX10 : String := "BehaviorRunner$Writer"
def TX10 : u_T := fun k => match k with
  | 0 => ("BehaviorRunner$Writer", "tree", "LBehaviorRunner$Tree;", true)
  | _ => ("BehaviorRunner$Writer", "text", "LBehaviorRunner$Text;", true)
def tyX10 : Nat → FieldType := fun k => match k with
  | 0 => .object "BehaviorRunner$Tree"
  | _ => .object "BehaviorRunner$Text"
abbrev wsX100 : List Cond := u_ws RX10 TX10 2
theorem nmX10 : ∀ a, a < 2 → ∀ b, b < 2 → a ≠ b → (TX10 a).2.1 ≠ (TX10 b).2.1 := by decide +kernel
theorem tyX10_ok : ∀ k, k < 2 → parseFieldDescriptor (TX10 k).2.2.1 = some (tyX10 k) := by decide +kernel
abbrev cX10_init : ByteArray := prog_12_method_1_code
def yX10_init : MethodName := ⟨RX10, "<init>", "(LBehaviorRunner$Tree;LBehaviorRunner$Text;)V"⟩
abbrev cX10_writeTree : ByteArray := prog_12_method_2_code
def yX10_writeTree : MethodName := ⟨RX10, "writeTree", "()V"⟩
abbrev cX10_writeHead : ByteArray := prog_12_method_3_code
def yX10_writeHead : MethodName := ⟨RX10, "writeHead", "(LBehaviorRunner$Node;)V"⟩
abbrev cX10_writeBehind : ByteArray := prog_12_method_4_code
def yX10_writeBehind : MethodName := ⟨RX10, "writeBehind", "(LBehaviorRunner$Node;)V"⟩
abbrev cX10_hasNumber : ByteArray := prog_12_method_5_code
def yX10_hasNumber : MethodName := ⟨RX10, "hasNumber", "(LBehaviorRunner$Node;)Z"⟩
abbrev cX10_writeClause : ByteArray := prog_12_method_6_code
def yX10_writeClause : MethodName := ⟨RX10, "writeClause", "(LBehaviorRunner$Clause;)V"⟩
abbrev cX10_writeNumber : ByteArray := prog_12_method_7_code
def yX10_writeNumber : MethodName := ⟨RX10, "writeNumber", "(I)V"⟩
def RX11 : String := "BehaviorRunner"
def TX11 : u_T := fun k => match k with
  | 0 => ("BehaviorRunner", "typed", "LBehaviorRunner$Text;", true)
  | 1 => ("BehaviorRunner", "output", "LBehaviorRunner$Text;", true)
  | 2 => ("BehaviorRunner", "walker", "LBehaviorRunner$Walker;", true)
  | 3 => ("BehaviorRunner", "board", "LBehaviorRunner$Board;", true)
  | 4 => ("BehaviorRunner", "ledger", "LBehaviorRunner$Ledger;", true)
  | 5 => ("BehaviorRunner", "saved", "LBehaviorRunner$Snapshot;", true)
  | 6 => ("BehaviorRunner", "aside", "LBehaviorRunner$Snapshot;", true)
  | 7 => ("BehaviorRunner", "tree", "LBehaviorRunner$Tree;", false)
  | 8 => ("BehaviorRunner", "spare", "LBehaviorRunner$Tree;", false)
  | _ => ("BehaviorRunner", "hasSaved", "Z", false)
def tyX11 : Nat → FieldType := fun k => match k with
  | 0 => .object "BehaviorRunner$Text"
  | 1 => .object "BehaviorRunner$Text"
  | 2 => .object "BehaviorRunner$Walker"
  | 3 => .object "BehaviorRunner$Board"
  | 4 => .object "BehaviorRunner$Ledger"
  | 5 => .object "BehaviorRunner$Snapshot"
  | 6 => .object "BehaviorRunner$Snapshot"
  | 7 => .object "BehaviorRunner$Tree"
  | 8 => .object "BehaviorRunner$Tree"
  | _ => .boolean
abbrev wsX110 : List Cond := u_ws RX11 TX11 10
theorem nmX11 : ∀ a, a < 10 → ∀ b, b < 10 → a ≠ b → (TX11 a).2.1 ≠ (TX11 b).2.1 := by decide +kernel
theorem tyX11_ok : ∀ k, k < 10 → parseFieldDescriptor (TX11 k).2.2.1 = some (tyX11 k) := by decide +kernel
abbrev cX11_init : ByteArray := prog_1_method_1_code
def yX11_init : MethodName := ⟨RX11, "<init>", "()V"⟩
abbrev cX11_append : ByteArray := prog_1_method_2_code
def yX11_append : MethodName := ⟨RX11, "append", "(II)I"⟩
abbrev cX11_readTree : ByteArray := prog_1_method_3_code
def yX11_readTree : MethodName := ⟨RX11, "readTree", "()I"⟩
abbrev cX11_set : ByteArray := prog_1_method_4_code
def yX11_set : MethodName := ⟨RX11, "set", "(II)I"⟩
abbrev cX11_value : ByteArray := prog_1_method_5_code
def yX11_value : MethodName := ⟨RX11, "value", "(II)I"⟩
abbrev cX11_tick : ByteArray := prog_1_method_6_code
def yX11_tick : MethodName := ⟨RX11, "tick", "(I)I"⟩
abbrev cX11_run : ByteArray := prog_1_method_7_code
def yX11_run : MethodName := ⟨RX11, "run", "(I)I"⟩
abbrev cX11_foresee : ByteArray := prog_1_method_8_code
def yX11_foresee : MethodName := ⟨RX11, "foresee", "()I"⟩
abbrev cX11_ticksToGo : ByteArray := prog_1_method_9_code
def yX11_ticksToGo : MethodName := ⟨RX11, "ticksToGo", "()I"⟩
abbrev cX11_abort : ByteArray := prog_1_method_10_code
def yX11_abort : MethodName := ⟨RX11, "abort", "()I"⟩
abbrev cX11_node : ByteArray := prog_1_method_11_code
def yX11_node : MethodName := ⟨RX11, "node", "(II)I"⟩
abbrev cX11_child : ByteArray := prog_1_method_12_code
def yX11_child : MethodName := ⟨RX11, "child", "(II)I"⟩
abbrev cX11_underWay : ByteArray := prog_1_method_13_code
def yX11_underWay : MethodName := ⟨RX11, "underWay", "(I)I"⟩
abbrev cX11_pending : ByteArray := prog_1_method_14_code
def yX11_pending : MethodName := ⟨RX11, "pending", "()I"⟩
abbrev cX11_trace : ByteArray := prog_1_method_15_code
def yX11_trace : MethodName := ⟨RX11, "trace", "(II)I"⟩
abbrev cX11_count : ByteArray := prog_1_method_16_code
def yX11_count : MethodName := ⟨RX11, "count", "(I)I"⟩
abbrev cX11_write : ByteArray := prog_1_method_17_code
def yX11_write : MethodName := ⟨RX11, "write", "()I"⟩
abbrev cX11_written : ByteArray := prog_1_method_18_code
def yX11_written : MethodName := ⟨RX11, "written", "(I)I"⟩
abbrev cX11_save : ByteArray := prog_1_method_19_code
def yX11_save : MethodName := ⟨RX11, "save", "()I"⟩
abbrev cX11_restore : ByteArray := prog_1_method_20_code
def yX11_restore : MethodName := ⟨RX11, "restore", "()I"⟩
def RX12 : String := "BehaviorRunnerModel"
def TX12 : u_T := fun k => match k with
  | 0 => ("BehaviorRunnerModel", "v", "[I", true)
  | 1 => ("BehaviorRunnerModel", "saved", "[I", true)
  | 2 => ("BehaviorRunnerModel", "kept", "[I", true)
  | 3 => ("BehaviorRunnerModel", "isSaved", "Z", false)
  | 4 => ("BehaviorRunnerModel", "text", "[I", true)
  | 5 => ("BehaviorRunnerModel", "written", "[I", true)
  | 6 => ("BehaviorRunnerModel", "textN", "I", false)
  | 7 => ("BehaviorRunnerModel", "writtenN", "I", false)
  | 8 => ("BehaviorRunnerModel", "nodes", "I", false)
  | 9 => ("BehaviorRunnerModel", "kind", "[I", true)
  | 10 => ("BehaviorRunnerModel", "number", "[I", true)
  | 11 => ("BehaviorRunnerModel", "above", "[I", true)
  | 12 => ("BehaviorRunnerModel", "depth", "[I", true)
  | 13 => ("BehaviorRunnerModel", "last", "[I", true)
  | 14 => ("BehaviorRunnerModel", "deedKey", "[I", true)
  | 15 => ("BehaviorRunnerModel", "deedSign", "[I", true)
  | 16 => ("BehaviorRunnerModel", "deedNumber", "[I", true)
  | 17 => ("BehaviorRunnerModel", "endKey", "[I", true)
  | 18 => ("BehaviorRunnerModel", "endSign", "[I", true)
  | 19 => ("BehaviorRunnerModel", "endNumber", "[I", true)
  | 20 => ("BehaviorRunnerModel", "at", "I", false)
  | 21 => ("BehaviorRunnerModel", "made", "I", false)
  | 22 => ("BehaviorRunnerModel", "isFaulty", "Z", false)
  | 23 => ("BehaviorRunnerModel", "newKind", "[I", true)
  | 24 => ("BehaviorRunnerModel", "newNumber", "[I", true)
  | 25 => ("BehaviorRunnerModel", "newAbove", "[I", true)
  | 26 => ("BehaviorRunnerModel", "newDepth", "[I", true)
  | 27 => ("BehaviorRunnerModel", "newLast", "[I", true)
  | 28 => ("BehaviorRunnerModel", "newKey", "[I", true)
  | 29 => ("BehaviorRunnerModel", "newSign", "[I", true)
  | 30 => ("BehaviorRunnerModel", "newWorth", "[I", true)
  | 31 => ("BehaviorRunnerModel", "newEndKey", "[I", true)
  | 32 => ("BehaviorRunnerModel", "newEndSign", "[I", true)
  | 33 => ("BehaviorRunnerModel", "newEndWorth", "[I", true)
  | 34 => ("BehaviorRunnerModel", "open", "[I", true)
  | 35 => ("BehaviorRunnerModel", "opened", "I", false)
  | 36 => ("BehaviorRunnerModel", "isMore", "Z", false)
  | 37 => ("BehaviorRunnerModel", "budget", "I", false)
  | _ => ("BehaviorRunnerModel", "passed", "I", false)
def tyX12 : Nat → FieldType := fun k => match k with
  | 0 => .array .int
  | 1 => .array .int
  | 2 => .array .int
  | 3 => .boolean
  | 4 => .array .int
  | 5 => .array .int
  | 6 => .int
  | 7 => .int
  | 8 => .int
  | 9 => .array .int
  | 10 => .array .int
  | 11 => .array .int
  | 12 => .array .int
  | 13 => .array .int
  | 14 => .array .int
  | 15 => .array .int
  | 16 => .array .int
  | 17 => .array .int
  | 18 => .array .int
  | 19 => .array .int
  | 20 => .int
  | 21 => .int
  | 22 => .boolean
  | 23 => .array .int
  | 24 => .array .int
  | 25 => .array .int
  | 26 => .array .int
  | 27 => .array .int
  | 28 => .array .int
  | 29 => .array .int
  | 30 => .array .int
  | 31 => .array .int
  | 32 => .array .int
  | 33 => .array .int
  | 34 => .array .int
  | 35 => .int
  | 36 => .boolean
  | 37 => .int
  | _ => .int
abbrev wsX120 : List Cond := u_ws RX12 TX12 39
theorem nmX12 : ∀ a, a < 39 → ∀ b, b < 39 → a ≠ b → (TX12 a).2.1 ≠ (TX12 b).2.1 := by decide +kernel
theorem tyX12_ok : ∀ k, k < 39 → parseFieldDescriptor (TX12 k).2.2.1 = some (tyX12 k) := by decide +kernel
abbrev cX12_init : ByteArray := prog_14_method_1_code
def yX12_init : MethodName := ⟨RX12, "<init>", "()V"⟩
abbrev cX12_isIn : ByteArray := prog_14_method_2_code
def yX12_isIn : MethodName := ⟨RX12, "isIn", "(III)Z"⟩
abbrev cX12_copies : ByteArray := prog_14_method_3_code
def yX12_copies : MethodName := ⟨RX12, "copies", "([I[I)V"⟩
abbrev cX12_of : ByteArray := prog_14_method_4_code
def yX12_of : MethodName := ⟨RX12, "of", "(II)I"⟩
abbrev cX12_sets : ByteArray := prog_14_method_5_code
def yX12_sets : MethodName := ⟨RX12, "sets", "(III)V"⟩
abbrev cX12_adds : ByteArray := prog_14_method_6_code
def yX12_adds : MethodName := ⟨RX12, "adds", "(II)V"⟩
abbrev cX12_append : ByteArray := prog_14_method_7_code
def yX12_append : MethodName := ⟨RX12, "append", "(II)I"⟩
abbrev cX12_here : ByteArray := prog_14_method_8_code
def yX12_here : MethodName := ⟨RX12, "here", "()I"⟩
abbrev cX12_digit : ByteArray := prog_14_method_9_code
def yX12_digit : MethodName := ⟨RX12, "digit", "(II)I"⟩
abbrev cX12_worth : ByteArray := prog_14_method_10_code
def yX12_worth : MethodName := ⟨RX12, "worth", "()I"⟩
abbrev cX12_sign : ByteArray := prog_14_method_11_code
def yX12_sign : MethodName := ⟨RX12, "sign", "(Z)I"⟩
abbrev cX12_deed : ByteArray := prog_14_method_12_code
def yX12_deed : MethodName := ⟨RX12, "deed", "(IZ)V"⟩
abbrev cX12_end : ByteArray := prog_14_method_13_code
def yX12_end : MethodName := ⟨RX12, "end", "(I)V"⟩
abbrev cX12_kindOf : ByteArray := prog_14_method_14_code
def yX12_kindOf : MethodName := ⟨RX12, "kindOf", "(I)I"⟩
abbrev cX12_isList : ByteArray := prog_14_method_15_code
def yX12_isList : MethodName := ⟨RX12, "isList", "(I)Z"⟩
abbrev cX12_begins : ByteArray := prog_14_method_16_code
def yX12_begins : MethodName := ⟨RX12, "begins", "()V"⟩
abbrev cX12_goesUp : ByteArray := prog_14_method_17_code
def yX12_goesUp : MethodName := ⟨RX12, "goesUp", "()V"⟩
abbrev cX12_readTree : ByteArray := prog_14_method_18_code
def yX12_readTree : MethodName := ⟨RX12, "readTree", "()I"⟩
abbrev cX12_set : ByteArray := prog_14_method_19_code
def yX12_set : MethodName := ⟨RX12, "set", "(II)I"⟩
abbrev cX12_place : ByteArray := prog_14_method_20_code
def yX12_place : MethodName := ⟨RX12, "place", "(II)I"⟩
abbrev cX12_value : ByteArray := prog_14_method_21_code
def yX12_value : MethodName := ⟨RX12, "value", "(II)I"⟩
abbrev cX12_does : ByteArray := prog_14_method_22_code
def yX12_does : MethodName := ⟨RX12, "does", "(IIII)V"⟩
abbrev cX12_holds : ByteArray := prog_14_method_23_code
def yX12_holds : MethodName := ⟨RX12, "holds", "(I)Z"⟩
abbrev cX12_tells : ByteArray := prog_14_method_24_code
def yX12_tells : MethodName := ⟨RX12, "tells", "(II)V"⟩
abbrev cX12_ends : ByteArray := prog_14_method_25_code
def yX12_ends : MethodName := ⟨RX12, "ends", "(I)V"⟩
abbrev cX12_aborts : ByteArray := prog_14_method_26_code
def yX12_aborts : MethodName := ⟨RX12, "aborts", "(I)I"⟩
abbrev cX12_childOf : ByteArray := prog_14_method_27_code
def yX12_childOf : MethodName := ⟨RX12, "childOf", "(II)I"⟩
abbrev cX12_children : ByteArray := prog_14_method_28_code
def yX12_children : MethodName := ⟨RX12, "children", "(I)I"⟩
abbrev cX12_enters : ByteArray := prog_14_method_29_code
def yX12_enters : MethodName := ⟨RX12, "enters", "(I)I"⟩
abbrev cX12_acts : ByteArray := prog_14_method_30_code
def yX12_acts : MethodName := ⟨RX12, "acts", "(I)I"⟩
abbrev cX12_asks : ByteArray := prog_14_method_31_code
def yX12_asks : MethodName := ⟨RX12, "asks", "(II)I"⟩
abbrev cX12_goesOn : ByteArray := prog_14_method_32_code
def yX12_goesOn : MethodName := ⟨RX12, "goesOn", "(I)I"⟩
abbrev cX12_bits : ByteArray := prog_14_method_33_code
def yX12_bits : MethodName := ⟨RX12, "bits", "(I)I"⟩
abbrev cX12_hears : ByteArray := prog_14_method_34_code
def yX12_hears : MethodName := ⟨RX12, "hears", "(II)I"⟩
abbrev cX12_counts : ByteArray := prog_14_method_35_code
def yX12_counts : MethodName := ⟨RX12, "counts", "(III)I"⟩
abbrev cX12_leaves : ByteArray := prog_14_method_36_code
def yX12_leaves : MethodName := ⟨RX12, "leaves", "(II)V"⟩
abbrev cX12_goes : ByteArray := prog_14_method_37_code
def yX12_goes : MethodName := ⟨RX12, "goes", "(I)I"⟩
abbrev cX12_ticked : ByteArray := prog_14_method_38_code
def yX12_ticked : MethodName := ⟨RX12, "ticked", "(I)I"⟩
abbrev cX12_tick : ByteArray := prog_14_method_39_code
def yX12_tick : MethodName := ⟨RX12, "tick", "(I)I"⟩
abbrev cX12_runs : ByteArray := prog_14_method_40_code
def yX12_runs : MethodName := ⟨RX12, "runs", "(I)I"⟩
abbrev cX12_run : ByteArray := prog_14_method_41_code
def yX12_run : MethodName := ⟨RX12, "run", "(I)I"⟩
abbrev cX12_foresee : ByteArray := prog_14_method_42_code
def yX12_foresee : MethodName := ⟨RX12, "foresee", "()I"⟩
abbrev cX12_ticksToGo : ByteArray := prog_14_method_43_code
def yX12_ticksToGo : MethodName := ⟨RX12, "ticksToGo", "()I"⟩
abbrev cX12_abort : ByteArray := prog_14_method_44_code
def yX12_abort : MethodName := ⟨RX12, "abort", "()I"⟩
abbrev cX12_node : ByteArray := prog_14_method_45_code
def yX12_node : MethodName := ⟨RX12, "node", "(II)I"⟩
abbrev cX12_child : ByteArray := prog_14_method_46_code
def yX12_child : MethodName := ⟨RX12, "child", "(II)I"⟩
abbrev cX12_underWay : ByteArray := prog_14_method_47_code
def yX12_underWay : MethodName := ⟨RX12, "underWay", "(I)I"⟩
abbrev cX12_pending : ByteArray := prog_14_method_48_code
def yX12_pending : MethodName := ⟨RX12, "pending", "()I"⟩
abbrev cX12_trace : ByteArray := prog_14_method_49_code
def yX12_trace : MethodName := ⟨RX12, "trace", "(II)I"⟩
abbrev cX12_count : ByteArray := prog_14_method_50_code
def yX12_count : MethodName := ⟨RX12, "count", "(I)I"⟩
abbrev cX12_writes : ByteArray := prog_14_method_51_code
def yX12_writes : MethodName := ⟨RX12, "writes", "(I)V"⟩
abbrev cX12_letter : ByteArray := prog_14_method_52_code
def yX12_letter : MethodName := ⟨RX12, "letter", "(I)I"⟩
abbrev cX12_writesDeed : ByteArray := prog_14_method_53_code
def yX12_writesDeed : MethodName := ⟨RX12, "writesDeed", "(III)V"⟩
abbrev cX12_writesNode : ByteArray := prog_14_method_54_code
def yX12_writesNode : MethodName := ⟨RX12, "writesNode", "(I)V"⟩
abbrev cX12_write : ByteArray := prog_14_method_55_code
def yX12_write : MethodName := ⟨RX12, "write", "()I"⟩
abbrev cX12_written : ByteArray := prog_14_method_56_code
def yX12_written : MethodName := ⟨RX12, "written", "(I)I"⟩
abbrev cX12_save : ByteArray := prog_14_method_57_code
def yX12_save : MethodName := ⟨RX12, "save", "()I"⟩
abbrev cX12_restore : ByteArray := prog_14_method_58_code
def yX12_restore : MethodName := ⟨RX12, "restore", "()I"⟩
def RJ11 : String := "java/lang/Character"
abbrev cJ11_isValidCodePoint_9a6ad : ByteArray := prog_15_method_11_code
def yJ11_isValidCodePoint_9a6ad : MethodName := ⟨RJ11, "isValidCodePoint", "(I)Z"⟩
abbrev cJ11_highSurrogate_5068e : ByteArray := prog_15_method_28_code
def yJ11_highSurrogate_5068e : MethodName := ⟨RJ11, "highSurrogate", "(I)C"⟩
abbrev cJ11_lowSurrogate_5068e : ByteArray := prog_15_method_29_code
def yJ11_lowSurrogate_5068e : MethodName := ⟨RJ11, "lowSurrogate", "(I)C"⟩
def RJ9 : String := "java/lang/Math"
abbrev cJ9_floorMod_7cf53 : ByteArray := prog_16_method_50_code
def yJ9_floorMod_7cf53 : MethodName := ⟨RJ9, "floorMod", "(II)I"⟩
abbrev cJ9_max_7cf53 : ByteArray := prog_16_method_65_code
def yJ9_max_7cf53 : MethodName := ⟨RJ9, "max", "(II)I"⟩
abbrev cJ9_min_7cf53 : ByteArray := prog_16_method_69_code
def yJ9_min_7cf53 : MethodName := ⟨RJ9, "min", "(II)I"⟩
def RJ0 : String := "java/lang/String"
abbrev cJ0_length_8abf5 : ByteArray := prog_17_method_54_code
def yJ0_length_8abf5 : MethodName := ⟨RJ0, "length", "()I"⟩
abbrev cJ0_charAt_5068e : ByteArray := prog_17_method_56_code
def yJ0_charAt_5068e : MethodName := ⟨RJ0, "charAt", "(I)C"⟩
abbrev cJ0_indexOf_0f7a4 : ByteArray := prog_17_method_79_code
def yJ0_indexOf_0f7a4 : MethodName := ⟨RJ0, "indexOf", "(I)I"⟩
abbrev cJ0_indexOf_7cf53 : ByteArray := prog_17_method_80_code
def yJ0_indexOf_7cf53 : MethodName := ⟨RJ0, "indexOf", "(II)I"⟩
abbrev cJ0_coder_7d493 : ByteArray := prog_17_method_152_code
def yJ0_coder_7d493 : MethodName := ⟨RJ0, "coder", "()B"⟩
abbrev cJ0_isLatin1_aae02 : ByteArray := prog_17_method_154_code
def yJ0_isLatin1_aae02 : MethodName := ⟨RJ0, "isLatin1", "()Z"⟩
abbrev cJ0_checkIndex_df160 : ByteArray := prog_17_method_155_code
def yJ0_checkIndex_df160 : MethodName := ⟨RJ0, "checkIndex", "(II)V"⟩
abbrev cJ0_checkBoundsBeginEnd_23922 : ByteArray := prog_17_method_158_code
def yJ0_checkBoundsBeginEnd_23922 : MethodName := ⟨RJ0, "checkBoundsBeginEnd", "(III)V"⟩
def RJ1 : String := "java/lang/StringLatin1"
abbrev cJ1_charAt_3b067 : ByteArray := prog_18_method_2_code
def yJ1_charAt_3b067 : MethodName := ⟨RJ1, "charAt", "([BI)C"⟩
abbrev cJ1_canEncode_9a6ad : ByteArray := prog_18_method_4_code
def yJ1_canEncode_9a6ad : MethodName := ⟨RJ1, "canEncode", "(I)Z"⟩
abbrev cJ1_indexOf_4cfef : ByteArray := prog_18_method_22_code
def yJ1_indexOf_4cfef : MethodName := ⟨RJ1, "indexOf", "([BIII)I"⟩
abbrev cJ1_indexOfChar_4cfef : ByteArray := prog_18_method_23_code
def yJ1_indexOfChar_4cfef : MethodName := ⟨RJ1, "indexOfChar", "([BIII)I"⟩
def RJ2 : String := "java/lang/StringUTF16"
abbrev cJ2_getChar_3b067 : ByteArray := prog_19_method_5_code
def yJ2_getChar_3b067 : MethodName := ⟨RJ2, "getChar", "([BI)C"⟩
abbrev cJ2_length_9d52b : ByteArray := prog_19_method_6_code
def yJ2_length_9d52b : MethodName := ⟨RJ2, "length", "([B)I"⟩
abbrev cJ2_indexOf_4cfef : ByteArray := prog_19_method_40_code
def yJ2_indexOf_4cfef : MethodName := ⟨RJ2, "indexOf", "([BIII)I"⟩
abbrev cJ2_indexOfChar_4cfef : ByteArray := prog_19_method_47_code
def yJ2_indexOfChar_4cfef : MethodName := ⟨RJ2, "indexOfChar", "([BIII)I"⟩
abbrev cJ2_indexOfCharUnsafe_4cfef : ByteArray := prog_19_method_48_code
def yJ2_indexOfCharUnsafe_4cfef : MethodName := ⟨RJ2, "indexOfCharUnsafe", "([BIII)I"⟩
abbrev cJ2_indexOfSupplementary_4cfef : ByteArray := prog_19_method_49_code
def yJ2_indexOfSupplementary_4cfef : MethodName := ⟨RJ2, "indexOfSupplementary", "([BIII)I"⟩
abbrev cJ2_charAt_3b067 : ByteArray := prog_19_method_83_code
def yJ2_charAt_3b067 : MethodName := ⟨RJ2, "charAt", "([BI)C"⟩
abbrev cJ2_checkIndex_2214a : ByteArray := prog_19_method_91_code
def yJ2_checkIndex_2214a : MethodName := ⟨RJ2, "checkIndex", "(I[B)V"⟩
abbrev cJ2_checkBoundsBeginEnd_d044e : ByteArray := prog_19_method_93_code
def yJ2_checkBoundsBeginEnd_d044e : MethodName := ⟨RJ2, "checkBoundsBeginEnd", "(II[B)V"⟩
def RJ10 : String := "java/lang/System"
def RJ3 : String := "jdk/internal/util/Preconditions"
abbrev cJ3_checkIndex_8e157 : ByteArray := prog_21_method_11_code
def yJ3_checkIndex_8e157 : MethodName := ⟨RJ3, "checkIndex", "(IILjava/util/function/BiFunction;)I"⟩
abbrev cJ3_checkFromToIndex_8c36e : ByteArray := prog_21_method_12_code
def yJ3_checkFromToIndex_8c36e : MethodName := ⟨RJ3, "checkFromToIndex", "(IIILjava/util/function/BiFunction;)I"⟩
def RL : String := "BehaviorRunnerLaw"
abbrev cL_law : ByteArray := code
def yL_law : MethodName := ⟨RL, "law", "([I)Z"⟩
def wsL_law_r1 : List Cond := [Cond.classLink RL 7 RX11, Cond.instantiable RX11 10, Cond.initialized RX11, Cond.classLink RL 10 RX12, Cond.instantiable RX12 39, Cond.initialized RX12, Cond.methodLink RL 9 yX11_init, Cond.instanceMethod yX11_init, Cond.code yX11_init cX11_init 1 none, Cond.methodLink RX11 1 objectInit, Cond.instanceMethod objectInit, Cond.code objectInit ⟨#[0xb1]⟩ 1 none, Cond.classLink RX11 7 RX7, Cond.instantiable RX7 2, Cond.initialized RX7, Cond.fieldLink RX11 10 "BehaviorRunner" "typed" "LBehaviorRunner$Text;", Cond.fieldLink RX11 16 "BehaviorRunner" "output" "LBehaviorRunner$Text;", Cond.classLink RX11 19 RX9, Cond.instantiable RX9 2, Cond.initialized RX9, Cond.fieldLink RX11 22 "BehaviorRunner" "walker" "LBehaviorRunner$Walker;", Cond.fieldLink RX11 30 "BehaviorRunner" "board" "LBehaviorRunner$Board;", Cond.fieldLink RX11 35 "BehaviorRunner" "ledger" "LBehaviorRunner$Ledger;", Cond.classLink RX11 36 RX6]
def wsL_law_r2 : List Cond := [Cond.instantiable RX6 3, Cond.initialized RX6, Cond.fieldLink RX11 39 "BehaviorRunner" "saved" "LBehaviorRunner$Snapshot;", Cond.fieldLink RX11 43 "BehaviorRunner" "aside" "LBehaviorRunner$Snapshot;", Cond.classLink RX11 46 RX8, Cond.instantiable RX8 2, Cond.initialized RX8, Cond.fieldLink RX11 49 "BehaviorRunner" "tree" "LBehaviorRunner$Tree;", Cond.fieldLink RX11 53 "BehaviorRunner" "spare" "LBehaviorRunner$Tree;", Cond.fieldLink RX11 56 "BehaviorRunner" "hasSaved" "Z", Cond.instanceMethod yX7_init, Cond.code yX7_init cX7_init 1 none, Cond.methodLink RX7 3 objectInit, Cond.arrayClass .char, Cond.fieldLink RX7 9 "BehaviorRunner$Text" "characters" "[C", Cond.fieldLink RX7 15 "BehaviorRunner$Text" "length" "I", Cond.instanceMethod yX9_init, Cond.code yX9_init cX9_init 1 none, Cond.methodLink RX9 3 objectInit, Cond.classLink RX9 9 RX0, Cond.instantiable RX0 1, Cond.initialized RX0, Cond.fieldLink RX9 12 "BehaviorRunner$Walker" "board" "LBehaviorRunner$Board;", Cond.classLink RX9 18 RX2]
def wsL_law_r3 : List Cond := [Cond.instantiable RX2 11, Cond.initialized RX2, Cond.fieldLink RX9 21 "BehaviorRunner$Walker" "ledger" "LBehaviorRunner$Ledger;", Cond.instanceMethod yX0_init, Cond.code yX0_init cX0_init 1 none, Cond.methodLink RX0 3 objectInit, Cond.arrayClass .int, Cond.fieldLink RX0 9 "BehaviorRunner$Board" "globals" "[I", Cond.instanceMethod yX2_init, Cond.code yX2_init cX2_init 1 none, Cond.methodLink RX2 3 objectInit, Cond.fieldLink RX2 9 "BehaviorRunner$Ledger" "next" "LBehaviorRunner$Node;", Cond.fieldLink RX2 15 "BehaviorRunner$Ledger" "ticks" "I", Cond.fieldLink RX2 19 "BehaviorRunner$Ledger" "successes" "I", Cond.fieldLink RX2 22 "BehaviorRunner$Ledger" "failures" "I", Cond.fieldLink RX2 25 "BehaviorRunner$Ledger" "visits" "I", Cond.fieldLink RX2 28 "BehaviorRunner$Ledger" "aborts" "I", Cond.fieldLink RX2 31 "BehaviorRunner$Ledger" "ends" "I", Cond.fieldLink RX2 34 "BehaviorRunner$Ledger" "suspensions" "I", Cond.fieldLink RX2 37 "BehaviorRunner$Ledger" "traced" "I", Cond.fieldLink RX2 40 "BehaviorRunner$Ledger" "tracedNodes" "[I", Cond.fieldLink RX2 44 "BehaviorRunner$Ledger" "tracedResults" "[I", Cond.methodLink RX11 38 yX6_init, Cond.instanceMethod yX6_init]
def wsL_law_r4 : List Cond := [Cond.code yX6_init cX6_init 2 none, Cond.methodLink RX6 3 objectInit, Cond.classLink RX6 9 RX3, Cond.fieldLink RX6 11 "BehaviorRunner$Snapshot" "lives" "[LBehaviorRunner$Life;", Cond.classLink RX6 17 RX0, Cond.fieldLink RX6 20 "BehaviorRunner$Snapshot" "board" "LBehaviorRunner$Board;", Cond.classLink RX6 24 RX2, Cond.fieldLink RX6 27 "BehaviorRunner$Snapshot" "ledger" "LBehaviorRunner$Ledger;", Cond.instantiable RX3 10, Cond.initialized RX3, Cond.instanceMethod yX3_init, Cond.code yX3_init cX3_init 1 none, Cond.methodLink RX3 3 objectInit, Cond.fieldLink RX3 9 "BehaviorRunner$Life" "running" "Z", Cond.fieldLink RX3 15 "BehaviorRunner$Life" "counted" "I", Cond.fieldLink RX3 19 "BehaviorRunner$Life" "current" "LBehaviorRunner$Node;", Cond.fieldLink RX3 23 "BehaviorRunner$Life" "latest" "I", Cond.fieldLink RX3 26 "BehaviorRunner$Life" "local" "I", Cond.fieldLink RX3 29 "BehaviorRunner$Life" "runs" "I", Cond.fieldLink RX3 32 "BehaviorRunner$Life" "successes" "I", Cond.fieldLink RX3 35 "BehaviorRunner$Life" "failures" "I", Cond.fieldLink RX3 38 "BehaviorRunner$Life" "aborts" "I", Cond.fieldLink RX3 41 "BehaviorRunner$Life" "visits" "I", Cond.methodLink RX11 48 yX8_init]
def wsL_law_r5 : List Cond := [Cond.instanceMethod yX8_init, Cond.code yX8_init cX8_init 2 none, Cond.methodLink RX8 3 objectInit, Cond.classLink RX8 9 RX4, Cond.fieldLink RX8 11 "BehaviorRunner$Tree" "nodes" "[LBehaviorRunner$Node;", Cond.fieldLink RX8 17 "BehaviorRunner$Tree" "size" "I", Cond.instantiable RX4 14, Cond.initialized RX4, Cond.methodLink RX8 21 yX4_init, Cond.instanceMethod yX4_init, Cond.code yX4_init cX4_init 2 none, Cond.methodLink RX4 3 objectInit, Cond.classLink RX4 9 RX1, Cond.instantiable RX1 5, Cond.initialized RX1, Cond.fieldLink RX4 12 "BehaviorRunner$Node" "clause" "LBehaviorRunner$Clause;", Cond.fieldLink RX4 18 "BehaviorRunner$Node" "end" "LBehaviorRunner$Clause;", Cond.classLink RX4 21 RX3, Cond.fieldLink RX4 24 "BehaviorRunner$Node" "life" "LBehaviorRunner$Life;", Cond.fieldLink RX4 28 "BehaviorRunner$Node" "kind" "I", Cond.fieldLink RX4 32 "BehaviorRunner$Node" "number" "I", Cond.fieldLink RX4 35 "BehaviorRunner$Node" "depth" "I", Cond.fieldLink RX4 38 "BehaviorRunner$Node" "children" "I", Cond.fieldLink RX4 41 "BehaviorRunner$Node" "before" "LBehaviorRunner$Node;"]
def wsL_law_r6 : List Cond := [Cond.fieldLink RX4 45 "BehaviorRunner$Node" "parent" "LBehaviorRunner$Node;", Cond.fieldLink RX4 48 "BehaviorRunner$Node" "firstChild" "LBehaviorRunner$Node;", Cond.fieldLink RX4 51 "BehaviorRunner$Node" "lastChild" "LBehaviorRunner$Node;", Cond.fieldLink RX4 54 "BehaviorRunner$Node" "nextSibling" "LBehaviorRunner$Node;", Cond.fieldLink RX4 57 "BehaviorRunner$Node" "lastBelow" "LBehaviorRunner$Node;", Cond.fieldLink RX4 60 "BehaviorRunner$Node" "index" "I", Cond.instanceMethod yX1_init, Cond.code yX1_init cX1_init 1 none, Cond.methodLink RX1 1 objectInit, Cond.fieldLink RX1 7 "BehaviorRunner$Clause" "present" "Z", Cond.fieldLink RX1 13 "BehaviorRunner$Clause" "key" "I", Cond.fieldLink RX1 17 "BehaviorRunner$Clause" "sign" "C", Cond.fieldLink RX1 21 "BehaviorRunner$Clause" "number" "I", Cond.fieldLink RX1 24 "BehaviorRunner$Clause" "scope" "LBehaviorRunner$Node;", Cond.methodLink RL 12 yX12_init, Cond.instanceMethod yX12_init, Cond.code yX12_init cX12_init 1 none, Cond.methodLink RX12 3 objectInit, Cond.fieldLink RX12 9 "BehaviorRunnerModel" "v" "[I", Cond.fieldLink RX12 13 "BehaviorRunnerModel" "saved" "[I", Cond.fieldLink RX12 16 "BehaviorRunnerModel" "kept" "[I", Cond.fieldLink RX12 19 "BehaviorRunnerModel" "text" "[I", Cond.fieldLink RX12 22 "BehaviorRunnerModel" "written" "[I", Cond.fieldLink RX12 25 "BehaviorRunnerModel" "kind" "[I"]
def wsL_law_r7 : List Cond := [Cond.fieldLink RX12 28 "BehaviorRunnerModel" "number" "[I", Cond.fieldLink RX12 31 "BehaviorRunnerModel" "above" "[I", Cond.fieldLink RX12 34 "BehaviorRunnerModel" "depth" "[I", Cond.fieldLink RX12 37 "BehaviorRunnerModel" "last" "[I", Cond.fieldLink RX12 40 "BehaviorRunnerModel" "deedKey" "[I", Cond.fieldLink RX12 43 "BehaviorRunnerModel" "deedSign" "[I", Cond.fieldLink RX12 46 "BehaviorRunnerModel" "deedNumber" "[I", Cond.fieldLink RX12 49 "BehaviorRunnerModel" "endKey" "[I", Cond.fieldLink RX12 52 "BehaviorRunnerModel" "endSign" "[I", Cond.fieldLink RX12 55 "BehaviorRunnerModel" "endNumber" "[I", Cond.fieldLink RX12 58 "BehaviorRunnerModel" "newKind" "[I", Cond.fieldLink RX12 61 "BehaviorRunnerModel" "newNumber" "[I", Cond.fieldLink RX12 64 "BehaviorRunnerModel" "newAbove" "[I", Cond.fieldLink RX12 67 "BehaviorRunnerModel" "newDepth" "[I", Cond.fieldLink RX12 70 "BehaviorRunnerModel" "newLast" "[I", Cond.fieldLink RX12 73 "BehaviorRunnerModel" "newKey" "[I", Cond.fieldLink RX12 76 "BehaviorRunnerModel" "newSign" "[I", Cond.fieldLink RX12 79 "BehaviorRunnerModel" "newWorth" "[I", Cond.fieldLink RX12 82 "BehaviorRunnerModel" "newEndKey" "[I", Cond.fieldLink RX12 85 "BehaviorRunnerModel" "newEndSign" "[I", Cond.fieldLink RX12 88 "BehaviorRunnerModel" "newEndWorth" "[I", Cond.fieldLink RX12 91 "BehaviorRunnerModel" "open" "[I", Cond.methodLink RL 13 yX11_append, Cond.instanceMethod yX11_append]
def wsL_law_r8 : List Cond := [Cond.selects RX11 yX11_append yX11_append, Cond.code yX11_append cX11_append 4 (some .int), Cond.methodLink RX11 64 yX7_add, Cond.instanceMethod yX7_add, Cond.selects RX7 yX7_add yX7_add, Cond.code yX7_add cX7_add 2 none, Cond.methodLink RL 17 yX12_append, Cond.instanceMethod yX12_append, Cond.selects RX12 yX12_append yX12_append, Cond.code yX12_append cX12_append 4 (some .int), Cond.fieldLink RX12 98 "BehaviorRunnerModel" "textN" "I", Cond.methodLink RX12 94 yX12_isIn, Cond.static yX12_isIn, Cond.code yX12_isIn cX12_isIn 3 (some .boolean), Cond.methodLink RL 18 yX11_readTree, Cond.instanceMethod yX11_readTree, Cond.selects RX11 yX11_readTree yX11_readTree, Cond.code yX11_readTree cX11_readTree 3 (some .int), Cond.classLink RX11 68 RX5, Cond.instantiable RX5 3, Cond.initialized RX5, Cond.methodLink RX11 70 yX5_init, Cond.instanceMethod yX5_init, Cond.code yX5_init cX5_init 3 none]
def wsL_law_r9 : List Cond := [Cond.methodLink RX5 3 objectInit, Cond.fieldLink RX5 9 "BehaviorRunner$Parser" "offset" "I", Cond.fieldLink RX5 15 "BehaviorRunner$Parser" "text" "LBehaviorRunner$Text;", Cond.fieldLink RX5 19 "BehaviorRunner$Parser" "tree" "LBehaviorRunner$Tree;", Cond.methodLink RX11 73 yX5_parse, Cond.instanceMethod yX5_parse, Cond.selects RX5 yX5_parse yX5_parse, Cond.code yX5_parse cX5_parse 2 (some .int), Cond.methodLink RX5 28 yX5_readNode, Cond.instanceMethod yX5_readNode, Cond.selects RX5 yX5_readNode yX5_readNode, Cond.code yX5_readNode cX5_readNode 5 (some .boolean), Cond.methodLink RX5 39 yX5_placeIn, Cond.instanceMethod yX5_placeIn, Cond.selects RX5 yX5_placeIn yX5_placeIn, Cond.code yX5_placeIn cX5_placeIn 3 (some .int), Cond.methodLink RX5 89 yX7_codeAt, Cond.instanceMethod yX7_codeAt, Cond.selects RX7 yX7_codeAt yX7_codeAt, Cond.code yX7_codeAt cX7_codeAt 2 (some .int), Cond.methodLink RX5 127 yJ0_indexOf_0f7a4, Cond.instanceMethod yJ0_indexOf_0f7a4, Cond.selects RJ0 yJ0_indexOf_0f7a4 yJ0_indexOf_0f7a4, Cond.initialized RJ0]
def wsL_law_r10 : List Cond := [Cond.code yJ0_indexOf_0f7a4 cJ0_indexOf_0f7a4 2 (some .int), Cond.methodLink RJ0 633 yJ0_indexOf_7cf53, Cond.instanceMethod yJ0_indexOf_7cf53, Cond.selects RJ0 yJ0_indexOf_7cf53 yJ0_indexOf_7cf53, Cond.code yJ0_indexOf_7cf53 cJ0_indexOf_7cf53 3 (some .int), Cond.fieldLink RJ0 9 "java/lang/String" "value" "[B", Cond.methodLink RJ0 492 yJ0_isLatin1_aae02, Cond.instanceMethod yJ0_isLatin1_aae02, Cond.selects RJ0 yJ0_isLatin1_aae02 yJ0_isLatin1_aae02, Cond.code yJ0_isLatin1_aae02 cJ0_isLatin1_aae02 1 (some .boolean), Cond.fieldLink RJ0 38 "java/lang/String" "COMPACT_STRINGS" "Z", Cond.fieldLink RJ0 15 "java/lang/String" "coder" "B", Cond.methodLink RJ0 505 yJ0_length_8abf5, Cond.instanceMethod yJ0_length_8abf5, Cond.selects RJ0 yJ0_length_8abf5 yJ0_length_8abf5, Cond.code yJ0_length_8abf5 cJ0_length_8abf5 1 (some .int), Cond.methodLink RJ0 335 yJ0_coder_7d493, Cond.instanceMethod yJ0_coder_7d493, Cond.selects RJ0 yJ0_coder_7d493 yJ0_coder_7d493, Cond.code yJ0_coder_7d493 cJ0_coder_7d493 1 (some .byte), Cond.methodLink RJ0 637 yJ1_indexOf_4cfef, Cond.static yJ1_indexOf_4cfef, Cond.initialized RJ1, Cond.code yJ1_indexOf_4cfef cJ1_indexOf_4cfef 4 (some .int)]
def wsL_law_r11 : List Cond := [Cond.methodLink RJ1 92 Lib.Math.max.name, Cond.static Lib.Math.max.name, Cond.initialized "java/lang/Math", Cond.code Lib.Math.max.name Lib.Math.max.code 2 (some .int), Cond.methodLink RJ1 38 Lib.Math.min.name, Cond.static Lib.Math.min.name, Cond.code Lib.Math.min.name Lib.Math.min.code 2 (some .int), Cond.methodLink RJ1 88 yJ1_canEncode_9a6ad, Cond.static yJ1_canEncode_9a6ad, Cond.code yJ1_canEncode_9a6ad cJ1_canEncode_9a6ad 1 (some .boolean), Cond.methodLink RJ1 95 yJ1_indexOfChar_4cfef, Cond.static yJ1_indexOfChar_4cfef, Cond.code yJ1_indexOfChar_4cfef cJ1_indexOfChar_4cfef 6 (some .int), Cond.methodLink RJ0 640 yJ2_indexOf_4cfef, Cond.static yJ2_indexOf_4cfef, Cond.initialized RJ2, Cond.code yJ2_indexOf_4cfef cJ2_indexOf_4cfef 4 (some .int), Cond.methodLink RJ2 224 Lib.Math.max.name, Cond.methodLink RJ2 183 Lib.Math.min.name, Cond.constant RJ2 227 (65536), Cond.methodLink RJ2 228 yJ2_indexOfChar_4cfef, Cond.static yJ2_indexOfChar_4cfef, Cond.code yJ2_indexOfChar_4cfef cJ2_indexOfChar_4cfef 4 (some .int), Cond.methodLink RJ2 96 yJ2_checkBoundsBeginEnd_d044e]
def wsL_law_r12 : List Cond := [Cond.static yJ2_checkBoundsBeginEnd_d044e, Cond.code yJ2_checkBoundsBeginEnd_d044e cJ2_checkBoundsBeginEnd_d044e 3 none, Cond.methodLink RJ2 48 yJ2_length_9d52b, Cond.static yJ2_length_9d52b, Cond.code yJ2_length_9d52b cJ2_length_9d52b 1 (some .int), Cond.methodLink RJ2 241 yJ0_checkBoundsBeginEnd_23922, Cond.static yJ0_checkBoundsBeginEnd_23922, Cond.code yJ0_checkBoundsBeginEnd_23922 cJ0_checkBoundsBeginEnd_23922 3 none, Cond.fieldLink RJ0 1053 "jdk/internal/util/Preconditions" "SIOOBE_FORMATTER" "Ljava/util/function/BiFunction;", Cond.methodLink RJ0 1062 yJ3_checkFromToIndex_8c36e, Cond.static yJ3_checkFromToIndex_8c36e, Cond.initialized RJ3, Cond.code yJ3_checkFromToIndex_8c36e cJ3_checkFromToIndex_8c36e 4 (some .int), Cond.methodLink RJ2 244 yJ2_indexOfCharUnsafe_4cfef, Cond.static yJ2_indexOfCharUnsafe_4cfef, Cond.code yJ2_indexOfCharUnsafe_4cfef cJ2_indexOfCharUnsafe_4cfef 5 (some .int), Cond.methodLink RJ2 71 yJ2_getChar_3b067, Cond.static yJ2_getChar_3b067, Cond.code yJ2_getChar_3b067 cJ2_getChar_3b067 2 (some .char), Cond.fieldLink RJ2 44 "java/lang/StringUTF16" "$assertionsDisabled" "Z", Cond.fieldLink RJ2 59 "java/lang/StringUTF16" "HI_BYTE_SHIFT" "I", Cond.fieldLink RJ2 63 "java/lang/StringUTF16" "LO_BYTE_SHIFT" "I", Cond.methodLink RJ2 232 yJ2_indexOfSupplementary_4cfef, Cond.static yJ2_indexOfSupplementary_4cfef]
def wsL_law_r13 : List Cond := [Cond.code yJ2_indexOfSupplementary_4cfef cJ2_indexOfSupplementary_4cfef 7 (some .int), Cond.methodLink RJ2 164 yJ11_isValidCodePoint_9a6ad, Cond.static yJ11_isValidCodePoint_9a6ad, Cond.initialized RJ11, Cond.code yJ11_isValidCodePoint_9a6ad cJ11_isValidCodePoint_9a6ad 2 (some .boolean), Cond.methodLink RJ2 157 yJ11_highSurrogate_5068e, Cond.static yJ11_highSurrogate_5068e, Cond.code yJ11_highSurrogate_5068e cJ11_highSurrogate_5068e 1 (some .char), Cond.constant RJ11 110 (55232), Cond.methodLink RJ2 161 yJ11_lowSurrogate_5068e, Cond.static yJ11_lowSurrogate_5068e, Cond.code yJ11_lowSurrogate_5068e cJ11_lowSurrogate_5068e 1 (some .char), Cond.constant RJ11 76 (56320), Cond.methodLink RX5 43 yX8_grow, Cond.instanceMethod yX8_grow, Cond.selects RX8 yX8_grow yX8_grow, Cond.code yX8_grow cX8_grow 4 (some (.object "BehaviorRunner$Node")), Cond.methodLink RX8 24 yX8_nodeAt, Cond.instanceMethod yX8_nodeAt, Cond.selects RX8 yX8_nodeAt yX8_nodeAt, Cond.code yX8_nodeAt cX8_nodeAt 2 (some (.object "BehaviorRunner$Node")), Cond.methodLink RX8 28 yX4_reset, Cond.instanceMethod yX4_reset, Cond.selects RX4 yX4_reset yX4_reset]
def wsL_law_r14 : List Cond := [Cond.code yX4_reset cX4_reset 4 none, Cond.methodLink RX4 63 yX1_clear, Cond.instanceMethod yX1_clear, Cond.selects RX1 yX1_clear yX1_clear, Cond.code yX1_clear cX1_clear 1 none, Cond.methodLink RX4 66 yX3_clear, Cond.instanceMethod yX3_clear, Cond.selects RX3 yX3_clear yX3_clear, Cond.code yX3_clear cX3_clear 1 none, Cond.methodLink RX8 32 yX4_adopt, Cond.instanceMethod yX4_adopt, Cond.selects RX4 yX4_adopt yX4_adopt, Cond.code yX4_adopt cX4_adopt 3 none, Cond.methodLink RX5 47 yX5_readRest, Cond.instanceMethod yX5_readRest, Cond.selects RX5 yX5_readRest yX5_readRest, Cond.code yX5_readList cX5_readList 4 (some .boolean), Cond.methodLink RX5 78 yX5_skip, Cond.instanceMethod yX5_skip, Cond.selects RX5 yX5_skip yX5_skip, Cond.code yX5_skip cX5_skip 2 (some .boolean), Cond.code yX5_readRest cX5_readRest 3 (some .boolean), Cond.methodLink RX5 55 yX5_readNumber, Cond.instanceMethod yX5_readNumber]
def wsL_law_r15 : List Cond := [Cond.selects RX5 yX5_readNumber yX5_readNumber, Cond.code yX5_readNumber cX5_readNumber 5 (some .boolean), Cond.methodLink RX5 82 yX5_readDigit, Cond.instanceMethod yX5_readDigit, Cond.selects RX5 yX5_readDigit yX5_readDigit, Cond.code yX5_readDigit cX5_readDigit 4 (some .int), Cond.methodLink RX5 59 yX5_readEffects, Cond.instanceMethod yX5_readEffects, Cond.selects RX5 yX5_readEffects yX5_readEffects, Cond.code yX5_readEffects cX5_readEffects 3 (some .boolean), Cond.methodLink RX5 69 yX5_readClause, Cond.instanceMethod yX5_readClause, Cond.selects RX5 yX5_readClause yX5_readClause, Cond.code yX5_readClause cX5_readClause 8 (some .boolean), Cond.methodLink RX5 96 yJ0_length_8abf5, Cond.methodLink RX5 110 yJ0_charAt_5068e, Cond.instanceMethod yJ0_charAt_5068e, Cond.selects RJ0 yJ0_charAt_5068e yJ0_charAt_5068e, Cond.code yJ0_charAt_5068e cJ0_charAt_5068e 2 (some .char), Cond.methodLink RJ0 495 yJ1_charAt_3b067, Cond.static yJ1_charAt_3b067, Cond.code yJ1_charAt_3b067 cJ1_charAt_3b067 2 (some .char), Cond.methodLink RJ1 9 yJ0_checkIndex_df160, Cond.static yJ0_checkIndex_df160]
def wsL_law_r16 : List Cond := [Cond.code yJ0_checkIndex_df160 cJ0_checkIndex_df160 2 none, Cond.methodLink RJ0 1059 yJ3_checkIndex_8e157, Cond.static yJ3_checkIndex_8e157, Cond.code yJ3_checkIndex_8e157 cJ3_checkIndex_8e157 3 (some .int), Cond.methodLink RJ0 498 yJ2_charAt_3b067, Cond.static yJ2_charAt_3b067, Cond.code yJ2_charAt_3b067 cJ2_charAt_3b067 2 (some .char), Cond.methodLink RJ2 67 yJ2_checkIndex_2214a, Cond.static yJ2_checkIndex_2214a, Cond.code yJ2_checkIndex_2214a cJ2_checkIndex_2214a 2 none, Cond.methodLink RJ2 414 yJ0_checkIndex_df160, Cond.methodLink RX5 119 yX4_scopeOf, Cond.instanceMethod yX4_scopeOf, Cond.selects RX4 yX4_scopeOf yX4_scopeOf, Cond.code yX4_scopeOf cX4_scopeOf 3 (some (.object "BehaviorRunner$Node")), Cond.methodLink RX5 75 yX5_readList, Cond.instanceMethod yX5_readList, Cond.selects RX5 yX5_readList yX5_readList, Cond.methodLink RX11 77 yX7_clear, Cond.instanceMethod yX7_clear, Cond.selects RX7 yX7_clear yX7_clear, Cond.code yX7_clear cX7_clear 1 none, Cond.methodLink RX11 80 yX2_clear, Cond.instanceMethod yX2_clear]
def wsL_law_r17 : List Cond := [Cond.selects RX2 yX2_clear yX2_clear, Cond.code yX2_clear cX2_clear 1 none, Cond.methodLink RL 22 yX12_readTree, Cond.instanceMethod yX12_readTree, Cond.selects RX12 yX12_readTree yX12_readTree, Cond.code yX12_readTree cX12_readTree 2 (some .int), Cond.fieldLink RX12 102 "BehaviorRunnerModel" "at" "I", Cond.fieldLink RX12 128 "BehaviorRunnerModel" "made" "I", Cond.fieldLink RX12 131 "BehaviorRunnerModel" "opened" "I", Cond.fieldLink RX12 109 "BehaviorRunnerModel" "isFaulty" "Z", Cond.fieldLink RX12 146 "BehaviorRunnerModel" "isMore" "Z", Cond.fieldLink RX12 155 "BehaviorRunnerModel" "nodes" "I", Cond.fieldLink RX12 158 "BehaviorRunnerModel" "isSaved" "Z", Cond.methodLink RX12 149 yX12_begins, Cond.instanceMethod yX12_begins, Cond.selects RX12 yX12_begins yX12_begins, Cond.code yX12_begins cX12_begins 3 none, Cond.methodLink RX12 105 yX12_here, Cond.instanceMethod yX12_here, Cond.selects RX12 yX12_here yX12_here, Cond.code yX12_here cX12_here 1 (some .int), Cond.methodLink RX12 124 yX12_kindOf, Cond.static yX12_kindOf, Cond.code yX12_kindOf cX12_kindOf 1 (some .int)]
def wsL_law_r18 : List Cond := [Cond.methodLink RX12 113 yX12_digit, Cond.instanceMethod yX12_digit, Cond.selects RX12 yX12_digit yX12_digit, Cond.code yX12_digit cX12_digit 4 (some .int), Cond.methodLink RX12 134 yX12_deed, Cond.instanceMethod yX12_deed, Cond.selects RX12 yX12_deed yX12_deed, Cond.code yX12_deed cX12_deed 3 none, Cond.methodLink RX12 117 yX12_sign, Cond.instanceMethod yX12_sign, Cond.selects RX12 yX12_sign yX12_sign, Cond.code yX12_sign cX12_sign 4 (some .int), Cond.methodLink RX12 121 yX12_worth, Cond.instanceMethod yX12_worth, Cond.selects RX12 yX12_worth yX12_worth, Cond.code yX12_worth cX12_worth 2 (some .int), Cond.methodLink RX12 138 yX12_end, Cond.instanceMethod yX12_end, Cond.selects RX12 yX12_end yX12_end, Cond.code yX12_end cX12_end 2 none, Cond.methodLink RX12 142 yX12_isList, Cond.static yX12_isList, Cond.code yX12_isList cX12_isList 1 (some .boolean), Cond.methodLink RX12 152 yX12_goesUp]
def wsL_law_r19 : List Cond := [Cond.instanceMethod yX12_goesUp, Cond.selects RX12 yX12_goesUp yX12_goesUp, Cond.code yX12_goesUp cX12_goesUp 3 none, Cond.methodLink RL 23 yX11_set, Cond.instanceMethod yX11_set, Cond.selects RX11 yX11_set yX11_set, Cond.code yX11_set cX11_set 4 (some .int), Cond.methodLink RX11 83 yX0_valueIn, Cond.instanceMethod yX0_valueIn, Cond.selects RX0 yX0_valueIn yX0_valueIn, Cond.code yX0_valueIn cX0_valueIn 3 (some .int), Cond.methodLink RX11 89 yX0_put, Cond.instanceMethod yX0_put, Cond.selects RX0 yX0_put yX0_put, Cond.code yX0_put cX0_put 4 none, Cond.methodLink RL 26 yX12_set, Cond.instanceMethod yX12_set, Cond.selects RX12 yX12_set yX12_set, Cond.code yX12_set cX12_set 4 (some .int), Cond.methodLink RL 27 yX11_value, Cond.instanceMethod yX11_value, Cond.selects RX11 yX11_value yX11_value, Cond.code yX11_value cX11_value 4 (some .int), Cond.methodLink RX11 93 yX8_nodeAt]
def wsL_law_r20 : List Cond := [Cond.methodLink RX11 97 yX4_scopeOf, Cond.methodLink RL 30 yX12_value, Cond.instanceMethod yX12_value, Cond.selects RX12 yX12_value yX12_value, Cond.code yX12_value cX12_value 3 (some .int), Cond.methodLink RX12 161 yX12_place, Cond.instanceMethod yX12_place, Cond.selects RX12 yX12_place yX12_place, Cond.code yX12_place cX12_place 4 (some .int), Cond.methodLink RL 31 yX11_tick, Cond.instanceMethod yX11_tick, Cond.selects RX11 yX11_tick yX11_tick, Cond.code yX11_tick cX11_tick 3 (some .int), Cond.methodLink RX11 102 yX9_perform, Cond.instanceMethod yX9_perform, Cond.selects RX9 yX9_perform yX9_perform, Cond.code yX9_perform cX9_perform 7 (some .int), Cond.methodLink RX9 29 yX9_beginVisit, Cond.instanceMethod yX9_beginVisit, Cond.selects RX9 yX9_beginVisit yX9_beginVisit, Cond.code yX9_beginVisit cX9_beginVisit 3 (some .int), Cond.methodLink RX9 109 yX9_beginRun, Cond.instanceMethod yX9_beginRun, Cond.selects RX9 yX9_beginRun yX9_beginRun]
def wsL_law_r21 : List Cond := [Cond.code yX9_beginRun cX9_beginRun 4 none, Cond.methodLink RX9 116 yX9_act, Cond.instanceMethod yX9_act, Cond.selects RX9 yX9_act yX9_act, Cond.code yX9_act cX9_act 3 (some .int), Cond.methodLink RX9 98 yX0_change, Cond.instanceMethod yX0_change, Cond.selects RX0 yX0_change yX0_change, Cond.code yX0_change cX0_change 3 none, Cond.methodLink RX0 53 Lib.Math.min.name, Cond.methodLink RX0 59 Lib.Math.max.name, Cond.methodLink RX0 42 yX0_valueIn, Cond.methodLink RX0 62 yX0_put, Cond.methodLink RX9 123 yX0_fulfils, Cond.instanceMethod yX0_fulfils, Cond.selects RX0 yX0_fulfils yX0_fulfils, Cond.code yX0_fulfils cX0_fulfils 3 (some .boolean), Cond.methodLink RX9 130 yX9_goDown, Cond.instanceMethod yX9_goDown, Cond.selects RX9 yX9_goDown yX9_goDown, Cond.code yX9_goDown cX9_goDown 2 (some .int), Cond.methodLink RX9 136 yX9_goOnInParallel, Cond.instanceMethod yX9_goOnInParallel, Cond.selects RX9 yX9_goOnInParallel yX9_goOnInParallel]
def wsL_law_r22 : List Cond := [Cond.code yX9_goOnInParallel cX9_goOnInParallel 6 (some .int), Cond.methodLink RX9 162 yX9_stopBack, Cond.instanceMethod yX9_stopBack, Cond.selects RX9 yX9_stopBack yX9_stopBack, Cond.code yX9_stopBack cX9_stopBack 4 none, Cond.methodLink RX9 70 yX9_endRun, Cond.instanceMethod yX9_endRun, Cond.selects RX9 yX9_endRun yX9_endRun, Cond.code yX9_endRun cX9_endRun 4 none, Cond.methodLink RX9 86 yX2_enter, Cond.instanceMethod yX2_enter, Cond.selects RX2 yX2_enter yX2_enter, Cond.code yX2_enter cX2_enter 4 none, Cond.methodLink RX2 53 yJ9_floorMod_7cf53, Cond.static yJ9_floorMod_7cf53, Cond.initialized RJ9, Cond.code yJ9_floorMod_7cf53 cJ9_floorMod_7cf53 3 (some .int), Cond.methodLink RX9 140 yX9_goDownIf, Cond.instanceMethod yX9_goDownIf, Cond.selects RX9 yX9_goDownIf yX9_goDownIf, Cond.code yX9_goDownIf cX9_goDownIf 3 (some .int), Cond.methodLink RX9 33 yX9_endVisit, Cond.instanceMethod yX9_endVisit, Cond.selects RX9 yX9_endVisit yX9_endVisit]
def wsL_law_r23 : List Cond := [Cond.code yX9_endVisit cX9_endVisit 3 none, Cond.methodLink RX9 42 yX9_goOn, Cond.instanceMethod yX9_goOn, Cond.selects RX9 yX9_goOn yX9_goOn, Cond.code yX9_goOn cX9_goOn 4 (some .int), Cond.methodLink RX9 166 yX9_goOnInList, Cond.instanceMethod yX9_goOnInList, Cond.selects RX9 yX9_goOnInList yX9_goOnInList, Cond.code yX9_goOnInList cX9_goOnInList 6 (some .int), Cond.methodLink RX9 174 yX4_isReactive, Cond.instanceMethod yX4_isReactive, Cond.selects RX4 yX4_isReactive yX4_isReactive, Cond.code yX4_isReactive cX4_isReactive 1 (some .boolean), Cond.methodLink RX9 170 yX9_countResult, Cond.instanceMethod yX9_countResult, Cond.selects RX9 yX9_countResult yX9_countResult, Cond.code yX9_countResult cX9_countResult 4 (some .int), Cond.methodLink RX9 46 yX2_endTick, Cond.instanceMethod yX2_endTick, Cond.selects RX2 yX2_endTick yX2_endTick, Cond.code yX2_endTick cX2_endTick 2 none, Cond.methodLink RL 35 yX12_tick, Cond.instanceMethod yX12_tick, Cond.selects RX12 yX12_tick yX12_tick]
def wsL_law_r24 : List Cond := [Cond.code yX12_tick cX12_tick 2 (some .int), Cond.methodLink RX12 225 yX12_goes, Cond.instanceMethod yX12_goes, Cond.selects RX12 yX12_goes yX12_goes, Cond.code yX12_goes cX12_goes 5 (some .int), Cond.methodLink RX12 213 yX12_enters, Cond.instanceMethod yX12_enters, Cond.selects RX12 yX12_enters yX12_enters, Cond.code yX12_enters cX12_enters 3 (some .int), Cond.methodLink RX12 175 yX12_adds, Cond.instanceMethod yX12_adds, Cond.selects RX12 yX12_adds yX12_adds, Cond.code yX12_adds cX12_adds 3 none, Cond.methodLink RX12 168 yX12_of, Cond.instanceMethod yX12_of, Cond.selects RX12 yX12_of yX12_of, Cond.code yX12_of cX12_of 3 (some .int), Cond.methodLink RX12 171 yX12_sets, Cond.instanceMethod yX12_sets, Cond.selects RX12 yX12_sets yX12_sets, Cond.code yX12_sets cX12_sets 4 none, Cond.methodLink RX12 188 yX12_acts, Cond.instanceMethod yX12_acts, Cond.selects RX12 yX12_acts yX12_acts]
def wsL_law_r25 : List Cond := [Cond.code yX12_acts cX12_acts 2 (some .int), Cond.methodLink RX12 164 yX12_does, Cond.instanceMethod yX12_does, Cond.selects RX12 yX12_does yX12_does, Cond.code yX12_does cX12_does 7 none, Cond.methodLink RX12 191 yX12_holds, Cond.instanceMethod yX12_holds, Cond.selects RX12 yX12_holds yX12_holds, Cond.code yX12_holds cX12_holds 3 (some .boolean), Cond.methodLink RX12 194 yX12_asks, Cond.instanceMethod yX12_asks, Cond.selects RX12 yX12_asks yX12_asks, Cond.code yX12_asks cX12_asks 3 (some .int), Cond.methodLink RX12 185 yX12_childOf, Cond.instanceMethod yX12_childOf, Cond.selects RX12 yX12_childOf yX12_childOf, Cond.code yX12_childOf cX12_childOf 5 (some .int), Cond.methodLink RX12 197 yX12_goesOn, Cond.instanceMethod yX12_goesOn, Cond.selects RX12 yX12_goesOn yX12_goesOn, Cond.code yX12_goesOn cX12_goesOn 7 (some .int), Cond.methodLink RX12 203 yX12_children, Cond.instanceMethod yX12_children, Cond.selects RX12 yX12_children yX12_children]
def wsL_law_r26 : List Cond := [Cond.code yX12_children cX12_children 3 (some .int), Cond.methodLink RX12 206 yX12_bits, Cond.static yX12_bits, Cond.code yX12_bits cX12_bits 3 (some .int), Cond.methodLink RX12 200 yX12_aborts, Cond.instanceMethod yX12_aborts, Cond.selects RX12 yX12_aborts yX12_aborts, Cond.code yX12_aborts cX12_aborts 4 (some .int), Cond.methodLink RX12 179 yX12_tells, Cond.instanceMethod yX12_tells, Cond.selects RX12 yX12_tells yX12_tells, Cond.code yX12_tells cX12_tells 4 none, Cond.methodLink RX12 182 yX12_ends, Cond.instanceMethod yX12_ends, Cond.selects RX12 yX12_ends yX12_ends, Cond.code yX12_ends cX12_ends 2 none, Cond.methodLink RX12 216 yX12_leaves, Cond.instanceMethod yX12_leaves, Cond.selects RX12 yX12_leaves yX12_leaves, Cond.code yX12_leaves cX12_leaves 3 none, Cond.methodLink RX12 219 yX12_ticked, Cond.instanceMethod yX12_ticked, Cond.selects RX12 yX12_ticked yX12_ticked, Cond.code yX12_ticked cX12_ticked 2 (some .int)]
def wsL_law_r27 : List Cond := [Cond.methodLink RX12 222 yX12_hears, Cond.instanceMethod yX12_hears, Cond.selects RX12 yX12_hears yX12_hears, Cond.code yX12_hears cX12_hears 7 (some .int), Cond.methodLink RX12 209 yX12_counts, Cond.instanceMethod yX12_counts, Cond.selects RX12 yX12_counts yX12_counts, Cond.code yX12_counts cX12_counts 4 (some .int), Cond.methodLink RL 36 yX11_run, Cond.instanceMethod yX11_run, Cond.selects RX11 yX11_run yX11_run, Cond.code yX11_run cX11_run 5 (some .int), Cond.constant RX11 105 (1000000), Cond.methodLink RL 39 yX12_run, Cond.instanceMethod yX12_run, Cond.selects RX12 yX12_run yX12_run, Cond.code yX12_run cX12_run 2 (some .int), Cond.methodLink RX12 231 yX12_runs, Cond.instanceMethod yX12_runs, Cond.selects RX12 yX12_runs yX12_runs, Cond.code yX12_runs cX12_runs 3 (some .int), Cond.fieldLink RX12 228 "BehaviorRunnerModel" "passed" "I", Cond.methodLink RL 40 yX11_foresee, Cond.instanceMethod yX11_foresee]
def wsL_law_r28 : List Cond := [Cond.selects RX11 yX11_foresee yX11_foresee, Cond.code yX11_foresee cX11_foresee 3 (some .int), Cond.methodLink RX11 106 yX6_take, Cond.instanceMethod yX6_take, Cond.selects RX6 yX6_take yX6_take, Cond.code yX6_take cX6_take 6 none, Cond.methodLink RX6 32 yX8_nodeAt, Cond.methodLink RX6 44 yX3_copyFrom, Cond.instanceMethod yX3_copyFrom, Cond.selects RX3 yX3_copyFrom yX3_copyFrom, Cond.code yX3_copyFrom cX3_copyFrom 2 none, Cond.methodLink RX6 48 yX0_copyFrom, Cond.instanceMethod yX0_copyFrom, Cond.selects RX0 yX0_copyFrom yX0_copyFrom, Cond.code yX0_copyFrom cX0_copyFrom 2 none, Cond.methodLink RX0 15 arraycopyName, Cond.native arraycopyName, Cond.static arraycopyName, Cond.initialized "java/lang/System", Cond.methodLink RX6 51 yX2_copyFrom, Cond.instanceMethod yX2_copyFrom, Cond.selects RX2 yX2_copyFrom yX2_copyFrom, Cond.code yX2_copyFrom cX2_copyFrom 2 none, Cond.methodLink RX2 47 arraycopyName]
def wsL_law_r29 : List Cond := [Cond.methodLink RX11 110 yX6_giveBack, Cond.instanceMethod yX6_giveBack, Cond.selects RX6 yX6_giveBack yX6_giveBack, Cond.code yX6_giveBack cX6_giveBack 6 none, Cond.methodLink RL 43 yX12_foresee, Cond.instanceMethod yX12_foresee, Cond.selects RX12 yX12_foresee yX12_foresee, Cond.code yX12_foresee cX12_foresee 2 (some .int), Cond.methodLink RX12 234 yX12_copies, Cond.static yX12_copies, Cond.code yX12_copies cX12_copies 3 none, Cond.methodLink RL 44 yX11_ticksToGo, Cond.instanceMethod yX11_ticksToGo, Cond.selects RX11 yX11_ticksToGo yX11_ticksToGo, Cond.code yX11_ticksToGo cX11_ticksToGo 4 (some .int), Cond.methodLink RL 47 yX12_ticksToGo, Cond.instanceMethod yX12_ticksToGo, Cond.selects RX12 yX12_ticksToGo yX12_ticksToGo, Cond.code yX12_ticksToGo cX12_ticksToGo 2 (some .int), Cond.methodLink RL 48 yX11_abort, Cond.instanceMethod yX11_abort, Cond.selects RX11 yX11_abort yX11_abort, Cond.code yX11_abort cX11_abort 3 (some .int), Cond.methodLink RX11 116 yX9_stopBack]
def wsL_law_r30 : List Cond := [Cond.methodLink RL 51 yX12_abort, Cond.instanceMethod yX12_abort, Cond.selects RX12 yX12_abort yX12_abort, Cond.code yX12_abort cX12_abort 1 (some .int), Cond.methodLink RL 52 yX11_node, Cond.instanceMethod yX11_node, Cond.selects RX11 yX11_node yX11_node, Cond.code yX11_node cX11_node 5 (some .int), Cond.methodLink RL 55 yX12_node, Cond.instanceMethod yX12_node, Cond.selects RX12 yX12_node yX12_node, Cond.code yX12_node cX12_node 3 (some .int), Cond.methodLink RL 56 yX11_child, Cond.instanceMethod yX11_child, Cond.selects RX11 yX11_child yX11_child, Cond.code yX11_child cX11_child 6 (some .int), Cond.methodLink RL 59 yX12_child, Cond.instanceMethod yX12_child, Cond.selects RX12 yX12_child yX12_child, Cond.code yX12_child cX12_child 4 (some .int), Cond.methodLink RL 60 yX11_underWay, Cond.instanceMethod yX11_underWay, Cond.selects RX11 yX11_underWay yX11_underWay, Cond.code yX11_underWay cX11_underWay 3 (some .int)]
def wsL_law_r31 : List Cond := [Cond.methodLink RL 63 yX12_underWay, Cond.instanceMethod yX12_underWay, Cond.selects RX12 yX12_underWay yX12_underWay, Cond.code yX12_underWay cX12_underWay 2 (some .int), Cond.methodLink RL 64 yX11_pending, Cond.instanceMethod yX11_pending, Cond.selects RX11 yX11_pending yX11_pending, Cond.code yX11_pending cX11_pending 1 (some .int), Cond.methodLink RL 67 yX12_pending, Cond.instanceMethod yX12_pending, Cond.selects RX12 yX12_pending yX12_pending, Cond.code yX12_pending cX12_pending 1 (some .int), Cond.methodLink RL 68 yX11_trace, Cond.instanceMethod yX11_trace, Cond.selects RX11 yX11_trace yX11_trace, Cond.code yX11_trace cX11_trace 3 (some .int), Cond.methodLink RX11 173 yX2_entries, Cond.instanceMethod yX2_entries, Cond.selects RX2 yX2_entries yX2_entries, Cond.code yX2_entries cX2_entries 1 (some .int), Cond.methodLink RX2 64 Lib.Math.min.name, Cond.methodLink RX11 176 yX2_tracedNode, Cond.instanceMethod yX2_tracedNode, Cond.selects RX2 yX2_tracedNode yX2_tracedNode]
def wsL_law_r32 : List Cond := [Cond.code yX2_tracedNode cX2_tracedNode 2 (some .int), Cond.methodLink RX2 67 yX2_placeOf, Cond.instanceMethod yX2_placeOf, Cond.selects RX2 yX2_placeOf yX2_placeOf, Cond.code yX2_placeOf cX2_placeOf 2 (some .int), Cond.methodLink RX11 180 yX2_tracedResult, Cond.instanceMethod yX2_tracedResult, Cond.selects RX2 yX2_tracedResult yX2_tracedResult, Cond.code yX2_tracedResult cX2_tracedResult 2 (some .int), Cond.methodLink RL 71 yX12_trace, Cond.instanceMethod yX12_trace, Cond.selects RX12 yX12_trace yX12_trace, Cond.code yX12_trace cX12_trace 3 (some .int), Cond.methodLink RL 72 yX11_count, Cond.instanceMethod yX11_count, Cond.selects RX11 yX11_count yX11_count, Cond.code yX11_count cX11_count 2 (some .int), Cond.methodLink RX11 195 yX8_runningNodes, Cond.instanceMethod yX8_runningNodes, Cond.selects RX8 yX8_runningNodes yX8_runningNodes, Cond.code yX8_runningNodes cX8_runningNodes 3 (some .int), Cond.methodLink RL 75 yX12_count, Cond.instanceMethod yX12_count, Cond.selects RX12 yX12_count yX12_count]
def wsL_law_r33 : List Cond := [Cond.code yX12_count cX12_count 4 (some .int), Cond.methodLink RL 76 yX11_write, Cond.instanceMethod yX11_write, Cond.selects RX11 yX11_write yX11_write, Cond.code yX11_write cX11_write 1 (some .int), Cond.classLink RX11 201 RX10, Cond.instantiable RX10 2, Cond.initialized RX10, Cond.methodLink RX11 203 yX10_init, Cond.instanceMethod yX10_init, Cond.code yX10_init cX10_init 3 none, Cond.methodLink RX10 3 objectInit, Cond.fieldLink RX10 9 "BehaviorRunner$Writer" "tree" "LBehaviorRunner$Tree;", Cond.fieldLink RX10 15 "BehaviorRunner$Writer" "text" "LBehaviorRunner$Text;", Cond.methodLink RX11 206 yX10_writeTree, Cond.instanceMethod yX10_writeTree, Cond.selects RX10 yX10_writeTree yX10_writeTree, Cond.code yX10_writeTree cX10_writeTree 3 none, Cond.methodLink RX10 19 yX7_clear, Cond.methodLink RX10 24 yX8_nodeAt, Cond.methodLink RX10 30 yX10_writeHead, Cond.instanceMethod yX10_writeHead, Cond.selects RX10 yX10_writeHead yX10_writeHead, Cond.code yX10_writeHead cX10_writeHead 2 none]
def wsL_law_r34 : List Cond := [Cond.methodLink RX10 45 yJ0_length_8abf5, Cond.methodLink RX10 51 yJ0_charAt_5068e, Cond.methodLink RX10 55 yX7_add, Cond.methodLink RX10 59 yX10_hasNumber, Cond.instanceMethod yX10_hasNumber, Cond.selects RX10 yX10_hasNumber yX10_hasNumber, Cond.code yX10_hasNumber cX10_hasNumber 2 (some .boolean), Cond.methodLink RX10 66 yX10_writeNumber, Cond.instanceMethod yX10_writeNumber, Cond.selects RX10 yX10_writeNumber yX10_writeNumber, Cond.code yX10_writeNumber cX10_writeNumber 2 none, Cond.methodLink RX10 80 yX10_writeClause, Cond.instanceMethod yX10_writeClause, Cond.selects RX10 yX10_writeClause yX10_writeClause, Cond.code yX10_writeClause cX10_writeClause 2 none, Cond.methodLink RX10 87 yX4_hasList, Cond.instanceMethod yX4_hasList, Cond.selects RX4 yX4_hasList yX4_hasList, Cond.code yX4_hasList cX4_hasList 1 (some .boolean), Cond.methodLink RX10 34 yX10_writeBehind, Cond.instanceMethod yX10_writeBehind, Cond.selects RX10 yX10_writeBehind yX10_writeBehind, Cond.code yX10_writeBehind cX10_writeBehind 3 none, Cond.methodLink RL 79 yX12_write]
def wsL_law_r35 : List Cond := [Cond.instanceMethod yX12_write, Cond.selects RX12 yX12_write yX12_write, Cond.code yX12_write cX12_write 3 (some .int), Cond.fieldLink RX12 238 "BehaviorRunnerModel" "writtenN" "I", Cond.methodLink RX12 250 yX12_writesNode, Cond.instanceMethod yX12_writesNode, Cond.selects RX12 yX12_writesNode yX12_writesNode, Cond.code yX12_writesNode cX12_writesNode 3 none, Cond.methodLink RX12 244 yX12_letter, Cond.static yX12_letter, Cond.code yX12_letter cX12_letter 1 (some .int), Cond.methodLink RX12 241 yX12_writes, Cond.instanceMethod yX12_writes, Cond.selects RX12 yX12_writes yX12_writes, Cond.code yX12_writes cX12_writes 2 none, Cond.methodLink RX12 247 yX12_writesDeed, Cond.instanceMethod yX12_writesDeed, Cond.selects RX12 yX12_writesDeed yX12_writesDeed, Cond.code yX12_writesDeed cX12_writesDeed 4 none, Cond.methodLink RL 80 yX11_written, Cond.instanceMethod yX11_written, Cond.selects RX11 yX11_written yX11_written, Cond.code yX11_written cX11_written 3 (some .int), Cond.methodLink RX11 209 yX7_codeAt]
def wsL_law_r36 : List Cond := [Cond.methodLink RL 83 yX12_written, Cond.instanceMethod yX12_written, Cond.selects RX12 yX12_written yX12_written, Cond.code yX12_written cX12_written 2 (some .int), Cond.methodLink RL 84 yX11_save, Cond.instanceMethod yX11_save, Cond.selects RX11 yX11_save yX11_save, Cond.code yX11_save cX11_save 1 (some .int), Cond.methodLink RL 87 yX12_save, Cond.instanceMethod yX12_save, Cond.selects RX12 yX12_save yX12_save, Cond.code yX12_save cX12_save 1 (some .int), Cond.methodLink RL 88 yX11_restore, Cond.instanceMethod yX11_restore, Cond.selects RX11 yX11_restore yX11_restore, Cond.code yX11_restore cX11_restore 1 (some .int), Cond.methodLink RL 91 yX12_restore, Cond.instanceMethod yX12_restore, Cond.selects RX12 yX12_restore yX12_restore, Cond.code yX12_restore cX12_restore 1 (some .int)]
def wsL_law : List Cond := (wsL_law_r1 ++ (wsL_law_r2 ++ (wsL_law_r3 ++ (wsL_law_r4 ++ (wsL_law_r5 ++ (wsL_law_r6 ++ (wsL_law_r7 ++ (wsL_law_r8 ++ (wsL_law_r9 ++ (wsL_law_r10 ++ (wsL_law_r11 ++ (wsL_law_r12 ++ (wsL_law_r13 ++ (wsL_law_r14 ++ (wsL_law_r15 ++ (wsL_law_r16 ++ (wsL_law_r17 ++ (wsL_law_r18 ++ (wsL_law_r19 ++ (wsL_law_r20 ++ (wsL_law_r21 ++ (wsL_law_r22 ++ (wsL_law_r23 ++ (wsL_law_r24 ++ (wsL_law_r25 ++ (wsL_law_r26 ++ (wsL_law_r27 ++ (wsL_law_r28 ++ (wsL_law_r29 ++ (wsL_law_r30 ++ (wsL_law_r31 ++ (wsL_law_r32 ++ (wsL_law_r33 ++ (wsL_law_r34 ++ (wsL_law_r35 ++ wsL_law_r36))))))))))))))))))))))))))))))))))) ++ wsX110 ++ wsX120 ++ wsX70 ++ wsX90 ++ wsX60 ++ wsX80 ++ wsX00 ++ wsX20 ++ wsX30 ++ wsX40 ++ wsX10 ++ wsX50 ++ wsX100 ++ ([] : List Cond)
set_option maxRecDepth 20000 in
theorem wsL_law_in : ∀ w ∈ wsL_law, w ∈ lw_tbl := fun w h => (goodIn_p wsL_law [83, 86, 91, 107, 113, 124, 186, 197, 263, 270, 276, 905, 432, 436, 1027, 1030, 440, 445, 460, 464, 469, 473, 477, 481, 485, 491, 495, 498, 504, 507, 501, 510, 513, 519, 522, 525, 528, 533, 536, 539, 548, 551, 554, 558, 563, 567, 571, 575, 579, 583, 638, 633, 587, 591, 595, 599, 604, 609, 612, 615, 618, 621, 624, 629, 642, 646, 1034, 1038, 1042, 1045, 1049, 1053, 1057, 1061, 1065, 1068, 1072, 651, 655, 659, 1076, 663, 1080, 1084, 669, 673, 677, 681, 685, 689, 697, 701, 705, 709, 713, 717, 720, 724, 728, 732, 736, 740, 744, 748, 1088, 1092, 1096, 1100, 1104, 1108, 1112, 1116, 1120, 1124, 1128, 1132, 1136, 1139, 1143, 1147, 1151, 1155, 1159, 1163, 1167, 752, 1171, 1175, 757, 761, 766, 770, 777, 782, 1179, 1182, 786, 1186, 790, 1190, 795, 1194, 799, 1198, 803, 1202, 807, 1206, 811, 815, 820, 824, 828, 1210, 832, 836, 1214, 840, 845, 857, 863, 871, 875, 879, 883, 887, 1218, 1222, 1225, 1229, 1233, 891, 1237, 896, 1241, 900, 1245] (by decide +kernel) (by decide +kernel) w h).1
theorem inlX0 : ∀ w ∈ wsX00, w ∈ wsL_law := fun _ h => List.mem_append_left _ (List.mem_append_left _ (List.mem_append_left _ (List.mem_append_left _ (List.mem_append_left _ (List.mem_append_left _ (List.mem_append_left _ (List.mem_append_right _ h)))))))
theorem inX0 : ∀ w ∈ wsX00, w ∈ lw_tbl := fun w h => wsL_law_in w (inlX0 w h)
theorem inlX1 : ∀ w ∈ wsX10, w ∈ wsL_law := fun _ h => List.mem_append_left _ (List.mem_append_left _ (List.mem_append_left _ (List.mem_append_right _ h)))
theorem inX1 : ∀ w ∈ wsX10, w ∈ lw_tbl := fun w h => wsL_law_in w (inlX1 w h)
theorem inlX2 : ∀ w ∈ wsX20, w ∈ wsL_law := fun _ h => List.mem_append_left _ (List.mem_append_left _ (List.mem_append_left _ (List.mem_append_left _ (List.mem_append_left _ (List.mem_append_left _ (List.mem_append_right _ h))))))
theorem inX2 : ∀ w ∈ wsX20, w ∈ lw_tbl := fun w h => wsL_law_in w (inlX2 w h)
theorem inlX3 : ∀ w ∈ wsX30, w ∈ wsL_law := fun _ h => List.mem_append_left _ (List.mem_append_left _ (List.mem_append_left _ (List.mem_append_left _ (List.mem_append_left _ (List.mem_append_right _ h)))))
theorem inX3 : ∀ w ∈ wsX30, w ∈ lw_tbl := fun w h => wsL_law_in w (inlX3 w h)
theorem inlX4 : ∀ w ∈ wsX40, w ∈ wsL_law := fun _ h => List.mem_append_left _ (List.mem_append_left _ (List.mem_append_left _ (List.mem_append_left _ (List.mem_append_right _ h))))
theorem inX4 : ∀ w ∈ wsX40, w ∈ lw_tbl := fun w h => wsL_law_in w (inlX4 w h)
theorem inlX5 : ∀ w ∈ wsX50, w ∈ wsL_law := fun _ h => List.mem_append_left _ (List.mem_append_left _ (List.mem_append_right _ h))
theorem inX5 : ∀ w ∈ wsX50, w ∈ lw_tbl := fun w h => wsL_law_in w (inlX5 w h)
theorem inlX6 : ∀ w ∈ wsX60, w ∈ wsL_law := fun _ h => List.mem_append_left _ (List.mem_append_left _ (List.mem_append_left _ (List.mem_append_left _ (List.mem_append_left _ (List.mem_append_left _ (List.mem_append_left _ (List.mem_append_left _ (List.mem_append_left _ (List.mem_append_right _ h)))))))))
theorem inX6 : ∀ w ∈ wsX60, w ∈ lw_tbl := fun w h => wsL_law_in w (inlX6 w h)
theorem inlX7 : ∀ w ∈ wsX70, w ∈ wsL_law := fun _ h => List.mem_append_left _ (List.mem_append_left _ (List.mem_append_left _ (List.mem_append_left _ (List.mem_append_left _ (List.mem_append_left _ (List.mem_append_left _ (List.mem_append_left _ (List.mem_append_left _ (List.mem_append_left _ (List.mem_append_left _ (List.mem_append_right _ h)))))))))))
theorem inX7 : ∀ w ∈ wsX70, w ∈ lw_tbl := fun w h => wsL_law_in w (inlX7 w h)
theorem inlX8 : ∀ w ∈ wsX80, w ∈ wsL_law := fun _ h => List.mem_append_left _ (List.mem_append_left _ (List.mem_append_left _ (List.mem_append_left _ (List.mem_append_left _ (List.mem_append_left _ (List.mem_append_left _ (List.mem_append_left _ (List.mem_append_right _ h))))))))
theorem inX8 : ∀ w ∈ wsX80, w ∈ lw_tbl := fun w h => wsL_law_in w (inlX8 w h)
theorem inlX9 : ∀ w ∈ wsX90, w ∈ wsL_law := fun _ h => List.mem_append_left _ (List.mem_append_left _ (List.mem_append_left _ (List.mem_append_left _ (List.mem_append_left _ (List.mem_append_left _ (List.mem_append_left _ (List.mem_append_left _ (List.mem_append_left _ (List.mem_append_left _ (List.mem_append_right _ h))))))))))
theorem inX9 : ∀ w ∈ wsX90, w ∈ lw_tbl := fun w h => wsL_law_in w (inlX9 w h)
theorem inlX10 : ∀ w ∈ wsX100, w ∈ wsL_law := fun _ h => List.mem_append_left _ (List.mem_append_right _ h)
theorem inX10 : ∀ w ∈ wsX100, w ∈ lw_tbl := fun w h => wsL_law_in w (inlX10 w h)
theorem inlX11 : ∀ w ∈ wsX110, w ∈ wsL_law := fun _ h => List.mem_append_left _ (List.mem_append_left _ (List.mem_append_left _ (List.mem_append_left _ (List.mem_append_left _ (List.mem_append_left _ (List.mem_append_left _ (List.mem_append_left _ (List.mem_append_left _ (List.mem_append_left _ (List.mem_append_left _ (List.mem_append_left _ (List.mem_append_left _ (List.mem_append_right _ h)))))))))))))
theorem inX11 : ∀ w ∈ wsX110, w ∈ lw_tbl := fun w h => wsL_law_in w (inlX11 w h)
theorem inlX12 : ∀ w ∈ wsX120, w ∈ wsL_law := fun _ h => List.mem_append_left _ (List.mem_append_left _ (List.mem_append_left _ (List.mem_append_left _ (List.mem_append_left _ (List.mem_append_left _ (List.mem_append_left _ (List.mem_append_left _ (List.mem_append_left _ (List.mem_append_left _ (List.mem_append_left _ (List.mem_append_left _ (List.mem_append_right _ h))))))))))))
theorem inX12 : ∀ w ∈ wsX120, w ∈ lw_tbl := fun w h => wsL_law_in w (inlX12 w h)
abbrev vwCl : List vw_C := [(RX0, TX0, 1), (RX1, TX1, 5), (RX2, TX2, 11), (RX3, TX3, 10), (RX4, TX4, 14), (RX5, TX5, 3), (RX6, TX6, 3), (RX7, TX7, 2), (RX8, TX8, 2), (RX9, TX9, 2), (RX10, TX10, 2), (RX11, TX11, 10), (RX12, TX12, 39)]
end
