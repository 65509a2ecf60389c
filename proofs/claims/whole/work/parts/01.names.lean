-- ===== PART A: goes FIRST, ahead of the names: the tables' words, and 'selects' of the private methods out of them =====
/-- a private method of a class that the tables say can be made, by its rows of tables_1 -/
def lw_okq (q : MethodName × Nat) : Prop := (q.1.cls ≠ "java/lang/invoke/MethodHandle" ∧ q.1.cls ≠ "java/lang/invoke/VarHandle") ∧ Cond.instantiable q.1.cls q.2 ∈ tables_1 ∧ Cond.privateMethod q.1 ∈ tables_1 ∧ Cond.instanceMethod q.1 ∈ tables_1
theorem lw_p0 : lw_okq (⟨"RaddleMarks", "refuse", "(I)I"⟩, 8) := ⟨⟨by decide +kernel, by decide +kernel⟩, List.mem_of_getElem? (i := 16) (by decide +kernel), List.mem_of_getElem? (i := 285) (by decide +kernel), List.mem_of_getElem? (i := 286) (by decide +kernel)⟩
theorem lw_p1 : lw_okq (⟨"RaddleMarks", "isSeeker", "(I)Z"⟩, 8) := ⟨⟨by decide +kernel, by decide +kernel⟩, List.mem_of_getElem? (i := 16) (by decide +kernel), List.mem_of_getElem? (i := 310) (by decide +kernel), List.mem_of_getElem? (i := 311) (by decide +kernel)⟩
theorem lw_p2 : lw_okq (⟨"RaddleMarks$Law", "workOut", "(III)I"⟩, 3) := ⟨⟨by decide +kernel, by decide +kernel⟩, List.mem_of_getElem? (i := 36) (by decide +kernel), List.mem_of_getElem? (i := 329) (by decide +kernel), List.mem_of_getElem? (i := 330) (by decide +kernel)⟩
theorem lw_p3 : lw_okq (⟨"RaddleMarks", "isMark", "(I)Z"⟩, 8) := ⟨⟨by decide +kernel, by decide +kernel⟩, List.mem_of_getElem? (i := 16) (by decide +kernel), List.mem_of_getElem? (i := 367) (by decide +kernel), List.mem_of_getElem? (i := 368) (by decide +kernel)⟩
theorem lw_p4 : lw_okq (⟨"RaddleMarks", "isSheep", "(I)Z"⟩, 8) := ⟨⟨by decide +kernel, by decide +kernel⟩, List.mem_of_getElem? (i := 16) (by decide +kernel), List.mem_of_getElem? (i := 375) (by decide +kernel), List.mem_of_getElem? (i := 376) (by decide +kernel)⟩
theorem lw_p5 : lw_okq (⟨"RaddleMarks$Sheep", "heardAsLamb", "()I"⟩, 6) := ⟨⟨by decide +kernel, by decide +kernel⟩, List.mem_of_getElem? (i := 95) (by decide +kernel), List.mem_of_getElem? (i := 383) (by decide +kernel), List.mem_of_getElem? (i := 384) (by decide +kernel)⟩
theorem lw_p6 : lw_okq (⟨"RaddleMarks", "isChange", "(II)Z"⟩, 8) := ⟨⟨by decide +kernel, by decide +kernel⟩, List.mem_of_getElem? (i := 16) (by decide +kernel), List.mem_of_getElem? (i := 402) (by decide +kernel), List.mem_of_getElem? (i := 403) (by decide +kernel)⟩
theorem lw_p7 : lw_okq (⟨"RaddleMarks$Reader", "readLevel", "(II)Z"⟩, 4) := ⟨⟨by decide +kernel, by decide +kernel⟩, List.mem_of_getElem? (i := 187) (by decide +kernel), List.mem_of_getElem? (i := 441) (by decide +kernel), List.mem_of_getElem? (i := 442) (by decide +kernel)⟩
theorem lw_p8 : lw_okq (⟨"RaddleMarks$Reader", "readFactor", "(I)Z"⟩, 4) := ⟨⟨by decide +kernel, by decide +kernel⟩, List.mem_of_getElem? (i := 187) (by decide +kernel), List.mem_of_getElem? (i := 445) (by decide +kernel), List.mem_of_getElem? (i := 446) (by decide +kernel)⟩
theorem lw_p9 : lw_okq (⟨"RaddleMarks$Reader", "next", "()I"⟩, 4) := ⟨⟨by decide +kernel, by decide +kernel⟩, List.mem_of_getElem? (i := 187) (by decide +kernel), List.mem_of_getElem? (i := 449) (by decide +kernel), List.mem_of_getElem? (i := 450) (by decide +kernel)⟩
theorem lw_p10 : lw_okq (⟨"RaddleMarks$Reader", "readNumber", "()V"⟩, 4) := ⟨⟨by decide +kernel, by decide +kernel⟩, List.mem_of_getElem? (i := 187) (by decide +kernel), List.mem_of_getElem? (i := 461) (by decide +kernel), List.mem_of_getElem? (i := 462) (by decide +kernel)⟩
theorem lw_p11 : lw_okq (⟨"RaddleMarks$Reader", "nameOf", "(I)I"⟩, 4) := ⟨⟨by decide +kernel, by decide +kernel⟩, List.mem_of_getElem? (i := 187) (by decide +kernel), List.mem_of_getElem? (i := 466) (by decide +kernel), List.mem_of_getElem? (i := 467) (by decide +kernel)⟩
theorem lw_p12 : lw_okq (⟨"RaddleMarks$Reader", "readDenied", "(I)Z"⟩, 4) := ⟨⟨by decide +kernel, by decide +kernel⟩, List.mem_of_getElem? (i := 187) (by decide +kernel), List.mem_of_getElem? (i := 472) (by decide +kernel), List.mem_of_getElem? (i := 473) (by decide +kernel)⟩
theorem lw_p13 : lw_okq (⟨"RaddleMarks$Reader", "readEnclosed", "(I)Z"⟩, 4) := ⟨⟨by decide +kernel, by decide +kernel⟩, List.mem_of_getElem? (i := 187) (by decide +kernel), List.mem_of_getElem? (i := 476) (by decide +kernel), List.mem_of_getElem? (i := 477) (by decide +kernel)⟩
theorem lw_p14 : lw_okq (⟨"RaddleMarks$Moor", "passOneHour", "()V"⟩, 9) := ⟨⟨by decide +kernel, by decide +kernel⟩, List.mem_of_getElem? (i := 30) (by decide +kernel), List.mem_of_getElem? (i := 503) (by decide +kernel), List.mem_of_getElem? (i := 504) (by decide +kernel)⟩
theorem lw_p15 : lw_okq (⟨"RaddleMarks$Moor", "seek", "(LRaddleMarks$Seeker;I)V"⟩, 9) := ⟨⟨by decide +kernel, by decide +kernel⟩, List.mem_of_getElem? (i := 30) (by decide +kernel), List.mem_of_getElem? (i := 515) (by decide +kernel), List.mem_of_getElem? (i := 516) (by decide +kernel)⟩
def lw_privs_1 : List (MethodName × Nat) := [(⟨"RaddleMarks", "refuse", "(I)I"⟩, 8), (⟨"RaddleMarks", "isSeeker", "(I)Z"⟩, 8), (⟨"RaddleMarks$Law", "workOut", "(III)I"⟩, 3), (⟨"RaddleMarks", "isMark", "(I)Z"⟩, 8), (⟨"RaddleMarks", "isSheep", "(I)Z"⟩, 8), (⟨"RaddleMarks$Sheep", "heardAsLamb", "()I"⟩, 6), (⟨"RaddleMarks", "isChange", "(II)Z"⟩, 8), (⟨"RaddleMarks$Reader", "readLevel", "(II)Z"⟩, 4), (⟨"RaddleMarks$Reader", "readFactor", "(I)Z"⟩, 4), (⟨"RaddleMarks$Reader", "next", "()I"⟩, 4), (⟨"RaddleMarks$Reader", "readNumber", "()V"⟩, 4), (⟨"RaddleMarks$Reader", "nameOf", "(I)I"⟩, 4), (⟨"RaddleMarks$Reader", "readDenied", "(I)Z"⟩, 4), (⟨"RaddleMarks$Reader", "readEnclosed", "(I)Z"⟩, 4), (⟨"RaddleMarks$Moor", "passOneHour", "()V"⟩, 9), (⟨"RaddleMarks$Moor", "seek", "(LRaddleMarks$Seeker;I)V"⟩, 9)]
theorem lw_r1 : ∀ q ∈ lw_privs_1, lw_okq q := List.forall_mem_cons.mpr ⟨lw_p0, List.forall_mem_cons.mpr ⟨lw_p1, List.forall_mem_cons.mpr ⟨lw_p2, List.forall_mem_cons.mpr ⟨lw_p3, List.forall_mem_cons.mpr ⟨lw_p4, List.forall_mem_cons.mpr ⟨lw_p5, List.forall_mem_cons.mpr ⟨lw_p6, List.forall_mem_cons.mpr ⟨lw_p7, List.forall_mem_cons.mpr ⟨lw_p8, List.forall_mem_cons.mpr ⟨lw_p9, List.forall_mem_cons.mpr ⟨lw_p10, List.forall_mem_cons.mpr ⟨lw_p11, List.forall_mem_cons.mpr ⟨lw_p12, List.forall_mem_cons.mpr ⟨lw_p13, List.forall_mem_cons.mpr ⟨lw_p14, List.forall_mem_cons.mpr ⟨lw_p15, fun _ h => absurd h List.not_mem_nil⟩⟩⟩⟩⟩⟩⟩⟩⟩⟩⟩⟩⟩⟩⟩⟩
theorem lw_p16 : lw_okq (⟨"RaddleMarks$Moor", "freeze", "(LRaddleMarks$Sheep;)V"⟩, 9) := ⟨⟨by decide +kernel, by decide +kernel⟩, List.mem_of_getElem? (i := 30) (by decide +kernel), List.mem_of_getElem? (i := 525) (by decide +kernel), List.mem_of_getElem? (i := 526) (by decide +kernel)⟩
theorem lw_p17 : lw_okq (⟨"RaddleMarks", "thinkFromNow", "()V"⟩, 8) := ⟨⟨by decide +kernel, by decide +kernel⟩, List.mem_of_getElem? (i := 16) (by decide +kernel), List.mem_of_getElem? (i := 548) (by decide +kernel), List.mem_of_getElem? (i := 549) (by decide +kernel)⟩
theorem lw_p18 : lw_okq (⟨"RaddleMarks$Voices", "speak", "(IIII)I"⟩, 4) := ⟨⟨by decide +kernel, by decide +kernel⟩, List.mem_of_getElem? (i := 210) (by decide +kernel), List.mem_of_getElem? (i := 649) (by decide +kernel), List.mem_of_getElem? (i := 650) (by decide +kernel)⟩
theorem lw_p19 : lw_okq (⟨"RaddleMarks$Voices", "workOut", "(III)I"⟩, 4) := ⟨⟨by decide +kernel, by decide +kernel⟩, List.mem_of_getElem? (i := 210) (by decide +kernel), List.mem_of_getElem? (i := 661) (by decide +kernel), List.mem_of_getElem? (i := 662) (by decide +kernel)⟩
theorem lw_p20 : lw_okq (⟨"RaddleMarks$Voices", "own", "(III)I"⟩, 4) := ⟨⟨by decide +kernel, by decide +kernel⟩, List.mem_of_getElem? (i := 210) (by decide +kernel), List.mem_of_getElem? (i := 665) (by decide +kernel), List.mem_of_getElem? (i := 666) (by decide +kernel)⟩
theorem lw_p21 : lw_okq (⟨"RaddleMarks$Voices", "above", "(IIII)I"⟩, 4) := ⟨⟨by decide +kernel, by decide +kernel⟩, List.mem_of_getElem? (i := 210) (by decide +kernel), List.mem_of_getElem? (i := 669) (by decide +kernel), List.mem_of_getElem? (i := 670) (by decide +kernel)⟩
theorem lw_p22 : lw_okq (⟨"RaddleMarksModel", "becomes", "(II)I"⟩, 25) := ⟨⟨by decide +kernel, by decide +kernel⟩, List.mem_of_getElem? (i := 767) (by decide +kernel), List.mem_of_getElem? (i := 859) (by decide +kernel), List.mem_of_getElem? (i := 860) (by decide +kernel)⟩
theorem lw_p23 : lw_okq (⟨"RaddleMarksModel", "errs", "(I)I"⟩, 25) := ⟨⟨by decide +kernel, by decide +kernel⟩, List.mem_of_getElem? (i := 767) (by decide +kernel), List.mem_of_getElem? (i := 864) (by decide +kernel), List.mem_of_getElem? (i := 865) (by decide +kernel)⟩
theorem lw_p24 : lw_okq (⟨"RaddleMarksModel", "thereIn", "(IZ)I"⟩, 25) := ⟨⟨by decide +kernel, by decide +kernel⟩, List.mem_of_getElem? (i := 767) (by decide +kernel), List.mem_of_getElem? (i := 873) (by decide +kernel), List.mem_of_getElem? (i := 874) (by decide +kernel)⟩
theorem lw_p25 : lw_okq (⟨"RaddleMarksModel", "its", "(II)I"⟩, 25) := ⟨⟨by decide +kernel, by decide +kernel⟩, List.mem_of_getElem? (i := 767) (by decide +kernel), List.mem_of_getElem? (i := 877) (by decide +kernel), List.mem_of_getElem? (i := 878) (by decide +kernel)⟩
theorem lw_p26 : lw_okq (⟨"RaddleMarksModel", "at", "(I)I"⟩, 25) := ⟨⟨by decide +kernel, by decide +kernel⟩, List.mem_of_getElem? (i := 767) (by decide +kernel), List.mem_of_getElem? (i := 881) (by decide +kernel), List.mem_of_getElem? (i := 882) (by decide +kernel)⟩
theorem lw_p27 : lw_okq (⟨"RaddleMarksModel", "isSeeker", "(I)Z"⟩, 25) := ⟨⟨by decide +kernel, by decide +kernel⟩, List.mem_of_getElem? (i := 767) (by decide +kernel), List.mem_of_getElem? (i := 894) (by decide +kernel), List.mem_of_getElem? (i := 895) (by decide +kernel)⟩
theorem lw_p28 : lw_okq (⟨"RaddleMarksModel", "outFor", "(I)I"⟩, 25) := ⟨⟨by decide +kernel, by decide +kernel⟩, List.mem_of_getElem? (i := 767) (by decide +kernel), List.mem_of_getElem? (i := 898) (by decide +kernel), List.mem_of_getElem? (i := 899) (by decide +kernel)⟩
theorem lw_p29 : lw_okq (⟨"RaddleMarksModel", "isLost", "(I)Z"⟩, 25) := ⟨⟨by decide +kernel, by decide +kernel⟩, List.mem_of_getElem? (i := 767) (by decide +kernel), List.mem_of_getElem? (i := 905) (by decide +kernel), List.mem_of_getElem? (i := 906) (by decide +kernel)⟩
theorem lw_p30 : lw_okq (⟨"RaddleMarksModel", "lawOf", "(IIII)I"⟩, 25) := ⟨⟨by decide +kernel, by decide +kernel⟩, List.mem_of_getElem? (i := 767) (by decide +kernel), List.mem_of_getElem? (i := 909) (by decide +kernel), List.mem_of_getElem? (i := 910) (by decide +kernel)⟩
theorem lw_p31 : lw_okq (⟨"RaddleMarksModel", "walks", "(IIII)I"⟩, 25) := ⟨⟨by decide +kernel, by decide +kernel⟩, List.mem_of_getElem? (i := 767) (by decide +kernel), List.mem_of_getElem? (i := 913) (by decide +kernel), List.mem_of_getElem? (i := 914) (by decide +kernel)⟩
def lw_privs_2 : List (MethodName × Nat) := [(⟨"RaddleMarks$Moor", "freeze", "(LRaddleMarks$Sheep;)V"⟩, 9), (⟨"RaddleMarks", "thinkFromNow", "()V"⟩, 8), (⟨"RaddleMarks$Voices", "speak", "(IIII)I"⟩, 4), (⟨"RaddleMarks$Voices", "workOut", "(III)I"⟩, 4), (⟨"RaddleMarks$Voices", "own", "(III)I"⟩, 4), (⟨"RaddleMarks$Voices", "above", "(IIII)I"⟩, 4), (⟨"RaddleMarksModel", "becomes", "(II)I"⟩, 25), (⟨"RaddleMarksModel", "errs", "(I)I"⟩, 25), (⟨"RaddleMarksModel", "thereIn", "(IZ)I"⟩, 25), (⟨"RaddleMarksModel", "its", "(II)I"⟩, 25), (⟨"RaddleMarksModel", "at", "(I)I"⟩, 25), (⟨"RaddleMarksModel", "isSeeker", "(I)Z"⟩, 25), (⟨"RaddleMarksModel", "outFor", "(I)I"⟩, 25), (⟨"RaddleMarksModel", "isLost", "(I)Z"⟩, 25), (⟨"RaddleMarksModel", "lawOf", "(IIII)I"⟩, 25), (⟨"RaddleMarksModel", "walks", "(IIII)I"⟩, 25)]
theorem lw_r2 : ∀ q ∈ lw_privs_2, lw_okq q := List.forall_mem_cons.mpr ⟨lw_p16, List.forall_mem_cons.mpr ⟨lw_p17, List.forall_mem_cons.mpr ⟨lw_p18, List.forall_mem_cons.mpr ⟨lw_p19, List.forall_mem_cons.mpr ⟨lw_p20, List.forall_mem_cons.mpr ⟨lw_p21, List.forall_mem_cons.mpr ⟨lw_p22, List.forall_mem_cons.mpr ⟨lw_p23, List.forall_mem_cons.mpr ⟨lw_p24, List.forall_mem_cons.mpr ⟨lw_p25, List.forall_mem_cons.mpr ⟨lw_p26, List.forall_mem_cons.mpr ⟨lw_p27, List.forall_mem_cons.mpr ⟨lw_p28, List.forall_mem_cons.mpr ⟨lw_p29, List.forall_mem_cons.mpr ⟨lw_p30, List.forall_mem_cons.mpr ⟨lw_p31, fun _ h => absurd h List.not_mem_nil⟩⟩⟩⟩⟩⟩⟩⟩⟩⟩⟩⟩⟩⟩⟩⟩
theorem lw_p32 : lw_okq (⟨"RaddleMarksModel", "isMark", "(I)Z"⟩, 25) := ⟨⟨by decide +kernel, by decide +kernel⟩, List.mem_of_getElem? (i := 767) (by decide +kernel), List.mem_of_getElem? (i := 931) (by decide +kernel), List.mem_of_getElem? (i := 932) (by decide +kernel)⟩
theorem lw_p33 : lw_okq (⟨"RaddleMarksModel", "gets", "(III)V"⟩, 25) := ⟨⟨by decide +kernel, by decide +kernel⟩, List.mem_of_getElem? (i := 767) (by decide +kernel), List.mem_of_getElem? (i := 935) (by decide +kernel), List.mem_of_getElem? (i := 936) (by decide +kernel)⟩
theorem lw_p34 : lw_okq (⟨"RaddleMarksModel", "isSheep", "(I)Z"⟩, 25) := ⟨⟨by decide +kernel, by decide +kernel⟩, List.mem_of_getElem? (i := 767) (by decide +kernel), List.mem_of_getElem? (i := 943) (by decide +kernel), List.mem_of_getElem? (i := 944) (by decide +kernel)⟩
theorem lw_p35 : lw_okq (⟨"RaddleMarksModel", "heard", "(I)I"⟩, 25) := ⟨⟨by decide +kernel, by decide +kernel⟩, List.mem_of_getElem? (i := 767) (by decide +kernel), List.mem_of_getElem? (i := 947) (by decide +kernel), List.mem_of_getElem? (i := 948) (by decide +kernel)⟩
theorem lw_p36 : lw_okq (⟨"RaddleMarksModel", "cold", "(I)I"⟩, 25) := ⟨⟨by decide +kernel, by decide +kernel⟩, List.mem_of_getElem? (i := 767) (by decide +kernel), List.mem_of_getElem? (i := 954) (by decide +kernel), List.mem_of_getElem? (i := 955) (by decide +kernel)⟩
theorem lw_p37 : lw_okq (⟨"RaddleMarksModel", "whole", "()V"⟩, 25) := ⟨⟨by decide +kernel, by decide +kernel⟩, List.mem_of_getElem? (i := 767) (by decide +kernel), List.mem_of_getElem? (i := 987) (by decide +kernel), List.mem_of_getElem? (i := 988) (by decide +kernel)⟩
theorem lw_p38 : lw_okq (⟨"RaddleMarksModel", "both", "()V"⟩, 25) := ⟨⟨by decide +kernel, by decide +kernel⟩, List.mem_of_getElem? (i := 767) (by decide +kernel), List.mem_of_getElem? (i := 991) (by decide +kernel), List.mem_of_getElem? (i := 992) (by decide +kernel)⟩
theorem lw_p39 : lw_okq (⟨"RaddleMarksModel", "compared", "()V"⟩, 25) := ⟨⟨by decide +kernel, by decide +kernel⟩, List.mem_of_getElem? (i := 767) (by decide +kernel), List.mem_of_getElem? (i := 995) (by decide +kernel), List.mem_of_getElem? (i := 996) (by decide +kernel)⟩
theorem lw_p40 : lw_okq (⟨"RaddleMarksModel", "sum", "()V"⟩, 25) := ⟨⟨by decide +kernel, by decide +kernel⟩, List.mem_of_getElem? (i := 767) (by decide +kernel), List.mem_of_getElem? (i := 999) (by decide +kernel), List.mem_of_getElem? (i := 1000) (by decide +kernel)⟩
theorem lw_p41 : lw_okq (⟨"RaddleMarksModel", "product", "()V"⟩, 25) := ⟨⟨by decide +kernel, by decide +kernel⟩, List.mem_of_getElem? (i := 767) (by decide +kernel), List.mem_of_getElem? (i := 1003) (by decide +kernel), List.mem_of_getElem? (i := 1004) (by decide +kernel)⟩
theorem lw_p42 : lw_okq (⟨"RaddleMarksModel", "factor", "()V"⟩, 25) := ⟨⟨by decide +kernel, by decide +kernel⟩, List.mem_of_getElem? (i := 767) (by decide +kernel), List.mem_of_getElem? (i := 1007) (by decide +kernel), List.mem_of_getElem? (i := 1008) (by decide +kernel)⟩
theorem lw_p43 : lw_okq (⟨"RaddleMarksModel", "byteAt", "(I)I"⟩, 25) := ⟨⟨by decide +kernel, by decide +kernel⟩, List.mem_of_getElem? (i := 767) (by decide +kernel), List.mem_of_getElem? (i := 1011) (by decide +kernel), List.mem_of_getElem? (i := 1012) (by decide +kernel)⟩
theorem lw_p44 : lw_okq (⟨"RaddleMarksModel", "number", "()V"⟩, 25) := ⟨⟨by decide +kernel, by decide +kernel⟩, List.mem_of_getElem? (i := 767) (by decide +kernel), List.mem_of_getElem? (i := 1018) (by decide +kernel), List.mem_of_getElem? (i := 1019) (by decide +kernel)⟩
theorem lw_p45 : lw_okq (⟨"RaddleMarksModel", "adds", "(I)V"⟩, 25) := ⟨⟨by decide +kernel, by decide +kernel⟩, List.mem_of_getElem? (i := 767) (by decide +kernel), List.mem_of_getElem? (i := 1022) (by decide +kernel), List.mem_of_getElem? (i := 1023) (by decide +kernel)⟩
theorem lw_p46 : lw_okq (⟨"RaddleMarksModel", "named", "(I)V"⟩, 25) := ⟨⟨by decide +kernel, by decide +kernel⟩, List.mem_of_getElem? (i := 767) (by decide +kernel), List.mem_of_getElem? (i := 1026) (by decide +kernel), List.mem_of_getElem? (i := 1027) (by decide +kernel)⟩
theorem lw_p47 : lw_okq (⟨"RaddleMarksModel", "passes", "(I)V"⟩, 25) := ⟨⟨by decide +kernel, by decide +kernel⟩, List.mem_of_getElem? (i := 767) (by decide +kernel), List.mem_of_getElem? (i := 1035) (by decide +kernel), List.mem_of_getElem? (i := 1036) (by decide +kernel)⟩
def lw_privs_3 : List (MethodName × Nat) := [(⟨"RaddleMarksModel", "isMark", "(I)Z"⟩, 25), (⟨"RaddleMarksModel", "gets", "(III)V"⟩, 25), (⟨"RaddleMarksModel", "isSheep", "(I)Z"⟩, 25), (⟨"RaddleMarksModel", "heard", "(I)I"⟩, 25), (⟨"RaddleMarksModel", "cold", "(I)I"⟩, 25), (⟨"RaddleMarksModel", "whole", "()V"⟩, 25), (⟨"RaddleMarksModel", "both", "()V"⟩, 25), (⟨"RaddleMarksModel", "compared", "()V"⟩, 25), (⟨"RaddleMarksModel", "sum", "()V"⟩, 25), (⟨"RaddleMarksModel", "product", "()V"⟩, 25), (⟨"RaddleMarksModel", "factor", "()V"⟩, 25), (⟨"RaddleMarksModel", "byteAt", "(I)I"⟩, 25), (⟨"RaddleMarksModel", "number", "()V"⟩, 25), (⟨"RaddleMarksModel", "adds", "(I)V"⟩, 25), (⟨"RaddleMarksModel", "named", "(I)V"⟩, 25), (⟨"RaddleMarksModel", "passes", "(I)V"⟩, 25)]
theorem lw_r3 : ∀ q ∈ lw_privs_3, lw_okq q := List.forall_mem_cons.mpr ⟨lw_p32, List.forall_mem_cons.mpr ⟨lw_p33, List.forall_mem_cons.mpr ⟨lw_p34, List.forall_mem_cons.mpr ⟨lw_p35, List.forall_mem_cons.mpr ⟨lw_p36, List.forall_mem_cons.mpr ⟨lw_p37, List.forall_mem_cons.mpr ⟨lw_p38, List.forall_mem_cons.mpr ⟨lw_p39, List.forall_mem_cons.mpr ⟨lw_p40, List.forall_mem_cons.mpr ⟨lw_p41, List.forall_mem_cons.mpr ⟨lw_p42, List.forall_mem_cons.mpr ⟨lw_p43, List.forall_mem_cons.mpr ⟨lw_p44, List.forall_mem_cons.mpr ⟨lw_p45, List.forall_mem_cons.mpr ⟨lw_p46, List.forall_mem_cons.mpr ⟨lw_p47, fun _ h => absurd h List.not_mem_nil⟩⟩⟩⟩⟩⟩⟩⟩⟩⟩⟩⟩⟩⟩⟩⟩
theorem lw_p48 : lw_okq (⟨"RaddleMarksModel", "oneHour", "()V"⟩, 25) := ⟨⟨by decide +kernel, by decide +kernel⟩, List.mem_of_getElem? (i := 767) (by decide +kernel), List.mem_of_getElem? (i := 1039) (by decide +kernel), List.mem_of_getElem? (i := 1040) (by decide +kernel)⟩
theorem lw_p49 : lw_okq (⟨"RaddleMarksModel", "seeks", "(I)V"⟩, 25) := ⟨⟨by decide +kernel, by decide +kernel⟩, List.mem_of_getElem? (i := 767) (by decide +kernel), List.mem_of_getElem? (i := 1043) (by decide +kernel), List.mem_of_getElem? (i := 1044) (by decide +kernel)⟩
theorem lw_p50 : lw_okq (⟨"RaddleMarksModel", "foundSet", "()I"⟩, 25) := ⟨⟨by decide +kernel, by decide +kernel⟩, List.mem_of_getElem? (i := 767) (by decide +kernel), List.mem_of_getElem? (i := 1047) (by decide +kernel), List.mem_of_getElem? (i := 1048) (by decide +kernel)⟩
theorem lw_p51 : lw_okq (⟨"RaddleMarksModel", "drawn", "()I"⟩, 25) := ⟨⟨by decide +kernel, by decide +kernel⟩, List.mem_of_getElem? (i := 767) (by decide +kernel), List.mem_of_getElem? (i := 1055) (by decide +kernel), List.mem_of_getElem? (i := 1056) (by decide +kernel)⟩
theorem lw_p52 : lw_okq (⟨"RaddleMarksModel", "moveAll", "([I[I)V"⟩, 25) := ⟨⟨by decide +kernel, by decide +kernel⟩, List.mem_of_getElem? (i := 767) (by decide +kernel), List.mem_of_getElem? (i := 1064) (by decide +kernel), List.mem_of_getElem? (i := 1065) (by decide +kernel)⟩
theorem lw_p53 : lw_okq (⟨"RaddleMarksModel", "foundBehind", "(I)I"⟩, 25) := ⟨⟨by decide +kernel, by decide +kernel⟩, List.mem_of_getElem? (i := 767) (by decide +kernel), List.mem_of_getElem? (i := 1077) (by decide +kernel), List.mem_of_getElem? (i := 1078) (by decide +kernel)⟩
theorem lw_p54 : lw_okq (⟨"RaddleMarksModel", "isSnowSo", "(I)Z"⟩, 25) := ⟨⟨by decide +kernel, by decide +kernel⟩, List.mem_of_getElem? (i := 767) (by decide +kernel), List.mem_of_getElem? (i := 1104) (by decide +kernel), List.mem_of_getElem? (i := 1105) (by decide +kernel)⟩
theorem lw_p55 : lw_okq (⟨"RaddleMarksModel", "bleatsIn", "(II)I"⟩, 25) := ⟨⟨by decide +kernel, by decide +kernel⟩, List.mem_of_getElem? (i := 767) (by decide +kernel), List.mem_of_getElem? (i := 1131) (by decide +kernel), List.mem_of_getElem? (i := 1132) (by decide +kernel)⟩
theorem lw_p56 : lw_okq (⟨"RaddleMarksModel", "ran", "(I)V"⟩, 25) := ⟨⟨by decide +kernel, by decide +kernel⟩, List.mem_of_getElem? (i := 767) (by decide +kernel), List.mem_of_getElem? (i := 1135) (by decide +kernel), List.mem_of_getElem? (i := 1136) (by decide +kernel)⟩
theorem lw_p57 : lw_okq (⟨"RaddleMarksModel", "waitsIn", "(II)I"⟩, 25) := ⟨⟨by decide +kernel, by decide +kernel⟩, List.mem_of_getElem? (i := 767) (by decide +kernel), List.mem_of_getElem? (i := 1139) (by decide +kernel), List.mem_of_getElem? (i := 1140) (by decide +kernel)⟩
theorem lw_p58 : lw_okq (⟨"RaddleMarksModel", "shiversIn", "(II)I"⟩, 25) := ⟨⟨by decide +kernel, by decide +kernel⟩, List.mem_of_getElem? (i := 767) (by decide +kernel), List.mem_of_getElem? (i := 1143) (by decide +kernel), List.mem_of_getElem? (i := 1144) (by decide +kernel)⟩
theorem lw_p59 : lw_okq (⟨"RaddleMarksModel", "tellsIn", "(II)I"⟩, 25) := ⟨⟨by decide +kernel, by decide +kernel⟩, List.mem_of_getElem? (i := 767) (by decide +kernel), List.mem_of_getElem? (i := 1147) (by decide +kernel), List.mem_of_getElem? (i := 1148) (by decide +kernel)⟩
theorem lw_p60 : lw_okq (⟨"RaddleMarksModel", "snowOfAll", "()I"⟩, 25) := ⟨⟨by decide +kernel, by decide +kernel⟩, List.mem_of_getElem? (i := 767) (by decide +kernel), List.mem_of_getElem? (i := 1198) (by decide +kernel), List.mem_of_getElem? (i := 1199) (by decide +kernel)⟩
theorem lw_p61 : lw_okq (⟨"RaddleMarksModel", "lostSet", "()I"⟩, 25) := ⟨⟨by decide +kernel, by decide +kernel⟩, List.mem_of_getElem? (i := 767) (by decide +kernel), List.mem_of_getElem? (i := 1202) (by decide +kernel), List.mem_of_getElem? (i := 1203) (by decide +kernel)⟩
def lw_privs_4 : List (MethodName × Nat) := [(⟨"RaddleMarksModel", "oneHour", "()V"⟩, 25), (⟨"RaddleMarksModel", "seeks", "(I)V"⟩, 25), (⟨"RaddleMarksModel", "foundSet", "()I"⟩, 25), (⟨"RaddleMarksModel", "drawn", "()I"⟩, 25), (⟨"RaddleMarksModel", "moveAll", "([I[I)V"⟩, 25), (⟨"RaddleMarksModel", "foundBehind", "(I)I"⟩, 25), (⟨"RaddleMarksModel", "isSnowSo", "(I)Z"⟩, 25), (⟨"RaddleMarksModel", "bleatsIn", "(II)I"⟩, 25), (⟨"RaddleMarksModel", "ran", "(I)V"⟩, 25), (⟨"RaddleMarksModel", "waitsIn", "(II)I"⟩, 25), (⟨"RaddleMarksModel", "shiversIn", "(II)I"⟩, 25), (⟨"RaddleMarksModel", "tellsIn", "(II)I"⟩, 25), (⟨"RaddleMarksModel", "snowOfAll", "()I"⟩, 25), (⟨"RaddleMarksModel", "lostSet", "()I"⟩, 25)]
theorem lw_r4 : ∀ q ∈ lw_privs_4, lw_okq q := List.forall_mem_cons.mpr ⟨lw_p48, List.forall_mem_cons.mpr ⟨lw_p49, List.forall_mem_cons.mpr ⟨lw_p50, List.forall_mem_cons.mpr ⟨lw_p51, List.forall_mem_cons.mpr ⟨lw_p52, List.forall_mem_cons.mpr ⟨lw_p53, List.forall_mem_cons.mpr ⟨lw_p54, List.forall_mem_cons.mpr ⟨lw_p55, List.forall_mem_cons.mpr ⟨lw_p56, List.forall_mem_cons.mpr ⟨lw_p57, List.forall_mem_cons.mpr ⟨lw_p58, List.forall_mem_cons.mpr ⟨lw_p59, List.forall_mem_cons.mpr ⟨lw_p60, List.forall_mem_cons.mpr ⟨lw_p61, fun _ h => absurd h List.not_mem_nil⟩⟩⟩⟩⟩⟩⟩⟩⟩⟩⟩⟩⟩⟩
def lw_privs : List (MethodName × Nat) := lw_privs_1 ++ (lw_privs_2 ++ (lw_privs_3 ++ (lw_privs_4)))
def lw_tbl : List Cond := k2_sels lw_privs ++ tables_1
theorem lw_privs_ok : ∀ q ∈ lw_privs, lw_okq q := by
  show ∀ q ∈ lw_privs_1 ++ (lw_privs_2 ++ (lw_privs_3 ++ (lw_privs_4))), lw_okq q
  exact List.forall_mem_append.mpr ⟨lw_r1, List.forall_mem_append.mpr ⟨lw_r2, List.forall_mem_append.mpr ⟨lw_r3, lw_r4⟩⟩⟩

def RX0 : String := "RaddleMarks$Law"
def TX0 : u_T := fun k => match k with
  | 0 => ("RaddleMarks$Law", "most", "I", true)
  | 1 => ("RaddleMarks$Law", "code", "LRaddleMarks$Row;", true)
  | _ => ("RaddleMarks$Law", "open", "LRaddleMarks$Row;", true)
def tyX0 : Nat → FieldType := fun k => match k with
  | 0 => .int
  | 1 => .object "RaddleMarks$Row"
  | _ => .object "RaddleMarks$Row"
theorem nmX0 : ∀ a, a < 3 → ∀ b, b < 3 → a ≠ b → (TX0 a).2.1 ≠ (TX0 b).2.1 := by decide +kernel
theorem tyX0_ok : ∀ k, k < 3 → parseFieldDescriptor (TX0 k).2.2.1 = some (tyX0 k) := by decide +kernel
abbrev cX0_init : ByteArray := prog_2_method_1_code
def yX0_init : MethodName := ⟨RX0, "<init>", "(I)V"⟩
abbrev cX0_gives : ByteArray := prog_2_method_2_code
def yX0_gives : MethodName := ⟨RX0, "gives", "(III)I"⟩
abbrev cX0_workOut : ByteArray := prog_2_method_3_code
def yX0_workOut : MethodName := ⟨RX0, "workOut", "(III)I"⟩
abbrev cX0_join : ByteArray := prog_2_method_4_code
def yX0_join : MethodName := ⟨RX0, "join", "(III)I"⟩
def RX1 : String := "RaddleMarks$Moor"
def TX1 : u_T := fun k => match k with
  | 0 => ("RaddleMarks$Moor", "falls", "LRaddleMarks$Law;", true)
  | 1 => ("RaddleMarks$Moor", "goesOut", "LRaddleMarks$Law;", true)
  | 2 => ("RaddleMarks$Moor", "snow", "[I", true)
  | 3 => ("RaddleMarks$Moor", "seekers", "[LRaddleMarks$Seeker;", true)
  | 4 => ("RaddleMarks$Moor", "flock", "[LRaddleMarks$Sheep;", true)
  | 5 => ("RaddleMarks$Moor", "finds", "LRaddleMarks$Row;", true)
  | 6 => ("RaddleMarks$Moor", "seekerCount", "I", false)
  | 7 => ("RaddleMarks$Moor", "sheepCount", "I", false)
  | _ => ("RaddleMarks$Moor", "hour", "I", false)
def tyX1 : Nat → FieldType := fun k => match k with
  | 0 => .object "RaddleMarks$Law"
  | 1 => .object "RaddleMarks$Law"
  | 2 => .array .int
  | 3 => .array (.object "RaddleMarks$Seeker")
  | 4 => .array (.object "RaddleMarks$Sheep")
  | 5 => .object "RaddleMarks$Row"
  | 6 => .int
  | 7 => .int
  | _ => .int
theorem nmX1 : ∀ a, a < 9 → ∀ b, b < 9 → a ≠ b → (TX1 a).2.1 ≠ (TX1 b).2.1 := by decide +kernel
theorem tyX1_ok : ∀ k, k < 9 → parseFieldDescriptor (TX1 k).2.2.1 = some (tyX1 k) := by decide +kernel
abbrev cX1_init : ByteArray := prog_3_method_1_code
def yX1_init : MethodName := ⟨RX1, "<init>", "()V"⟩
abbrev cX1_lawOf : ByteArray := prog_3_method_2_code
def yX1_lawOf : MethodName := ⟨RX1, "lawOf", "(I)LRaddleMarks$Law;"⟩
abbrev cX1_copyFrom : ByteArray := prog_3_method_3_code
def yX1_copyFrom : MethodName := ⟨RX1, "copyFrom", "(LRaddleMarks$Moor;)V"⟩
abbrev cX1_snowAt : ByteArray := prog_3_method_4_code
def yX1_snowAt : MethodName := ⟨RX1, "snowAt", "(I)I"⟩
abbrev cX1_dropSnow : ByteArray := prog_3_method_5_code
def yX1_dropSnow : MethodName := ⟨RX1, "dropSnow", "(II)V"⟩
abbrev cX1_snowInAll : ByteArray := prog_3_method_6_code
def yX1_snowInAll : MethodName := ⟨RX1, "snowInAll", "()I"⟩
abbrev cX1_hasSnowAs : ByteArray := prog_3_method_7_code
def yX1_hasSnowAs : MethodName := ⟨RX1, "hasSnowAs", "(LRaddleMarks$Row;)Z"⟩
abbrev cX1_seekersAt : ByteArray := prog_3_method_8_code
def yX1_seekersAt : MethodName := ⟨RX1, "seekersAt", "(I)I"⟩
abbrev cX1_sheepIn : ByteArray := prog_3_method_9_code
def yX1_sheepIn : MethodName := ⟨RX1, "sheepIn", "(I)I"⟩
abbrev cX1_foundSet : ByteArray := prog_3_method_10_code
def yX1_foundSet : MethodName := ⟨RX1, "foundSet", "()I"⟩
abbrev cX1_lostSet : ByteArray := prog_3_method_11_code
def yX1_lostSet : MethodName := ⟨RX1, "lostSet", "()I"⟩
abbrev cX1_soughtSet : ByteArray := prog_3_method_12_code
def yX1_soughtSet : MethodName := ⟨RX1, "soughtSet", "()I"⟩
abbrev cX1_takeFromMarks : ByteArray := prog_3_method_13_code
def yX1_takeFromMarks : MethodName := ⟨RX1, "takeFromMarks", "(I)V"⟩
abbrev cX1_outFor : ByteArray := prog_3_method_14_code
def yX1_outFor : MethodName := ⟨RX1, "outFor", "(I)I"⟩
abbrev cX1_passHours : ByteArray := prog_3_method_15_code
def yX1_passHours : MethodName := ⟨RX1, "passHours", "(I)V"⟩
abbrev cX1_passHoursFor : ByteArray := prog_3_method_16_code
def yX1_passHoursFor : MethodName := ⟨RX1, "passHoursFor", "(II)I"⟩
abbrev cX1_passOneHour : ByteArray := prog_3_method_17_code
def yX1_passOneHour : MethodName := ⟨RX1, "passOneHour", "()V"⟩
abbrev cX1_seek : ByteArray := prog_3_method_18_code
def yX1_seek : MethodName := ⟨RX1, "seek", "(LRaddleMarks$Seeker;I)V"⟩
abbrev cX1_freeze : ByteArray := prog_3_method_19_code
def yX1_freeze : MethodName := ⟨RX1, "freeze", "(LRaddleMarks$Sheep;)V"⟩
def RX2 : String := "RaddleMarks$Reader"
def TX2 : u_T := fun k => match k with
  | 0 => ("RaddleMarks$Reader", "bytes", "LRaddleMarks$Row;", true)
  | 1 => ("RaddleMarks$Reader", "code", "LRaddleMarks$Row;", true)
  | 2 => ("RaddleMarks$Reader", "use", "I", false)
  | _ => ("RaddleMarks$Reader", "place", "I", false)
def tyX2 : Nat → FieldType := fun k => match k with
  | 0 => .object "RaddleMarks$Row"
  | 1 => .object "RaddleMarks$Row"
  | 2 => .int
  | _ => .int
theorem nmX2 : ∀ a, a < 4 → ∀ b, b < 4 → a ≠ b → (TX2 a).2.1 ≠ (TX2 b).2.1 := by decide +kernel
theorem tyX2_ok : ∀ k, k < 4 → parseFieldDescriptor (TX2 k).2.2.1 = some (tyX2 k) := by decide +kernel
abbrev cX2_init : ByteArray := prog_4_method_1_code
def yX2_init : MethodName := ⟨RX2, "<init>", "()V"⟩
abbrev cX2_read : ByteArray := prog_4_method_2_code
def yX2_read : MethodName := ⟨RX2, "read", "(LRaddleMarks$Row;I)Z"⟩
abbrev cX2_readLevel : ByteArray := prog_4_method_3_code
def yX2_readLevel : MethodName := ⟨RX2, "readLevel", "(II)Z"⟩
abbrev cX2_readFactor : ByteArray := prog_4_method_4_code
def yX2_readFactor : MethodName := ⟨RX2, "readFactor", "(I)Z"⟩
abbrev cX2_readDenied : ByteArray := prog_4_method_5_code
def yX2_readDenied : MethodName := ⟨RX2, "readDenied", "(I)Z"⟩
abbrev cX2_readEnclosed : ByteArray := prog_4_method_6_code
def yX2_readEnclosed : MethodName := ⟨RX2, "readEnclosed", "(I)Z"⟩
abbrev cX2_readNumber : ByteArray := prog_4_method_7_code
def yX2_readNumber : MethodName := ⟨RX2, "readNumber", "()V"⟩
abbrev cX2_next : ByteArray := prog_4_method_8_code
def yX2_next : MethodName := ⟨RX2, "next", "()I"⟩
abbrev cX2_nameOf : ByteArray := prog_4_method_9_code
def yX2_nameOf : MethodName := ⟨RX2, "nameOf", "(I)I"⟩
abbrev cX2_isDigit : ByteArray := prog_4_method_10_code
def yX2_isDigit : MethodName := ⟨RX2, "isDigit", "(I)Z"⟩
abbrev cX2_levelOf : ByteArray := prog_4_method_11_code
def yX2_levelOf : MethodName := ⟨RX2, "levelOf", "(I)I"⟩
def RX3 : String := "RaddleMarks$Row"
def TX3 : u_T := fun k => match k with
  | 0 => ("RaddleMarks$Row", "items", "[I", true)
  | _ => ("RaddleMarks$Row", "size", "I", false)
def tyX3 : Nat → FieldType := fun k => match k with
  | 0 => .array .int
  | _ => .int
theorem nmX3 : ∀ a, a < 2 → ∀ b, b < 2 → a ≠ b → (TX3 a).2.1 ≠ (TX3 b).2.1 := by decide +kernel
theorem tyX3_ok : ∀ k, k < 2 → parseFieldDescriptor (TX3 k).2.2.1 = some (tyX3 k) := by decide +kernel
abbrev cX3_init : ByteArray := prog_5_method_1_code
def yX3_init : MethodName := ⟨RX3, "<init>", "(I)V"⟩
abbrev cX3_holds : ByteArray := prog_5_method_2_code
def yX3_holds : MethodName := ⟨RX3, "holds", "(I)Z"⟩
abbrev cX3_holdsRun : ByteArray := prog_5_method_3_code
def yX3_holdsRun : MethodName := ⟨RX3, "holdsRun", "(II)Z"⟩
abbrev cX3_get : ByteArray := prog_5_method_4_code
def yX3_get : MethodName := ⟨RX3, "get", "(I)I"⟩
abbrev cX3_append : ByteArray := prog_5_method_5_code
def yX3_append : MethodName := ⟨RX3, "append", "(I)Z"⟩
abbrev cX3_takeLast : ByteArray := prog_5_method_6_code
def yX3_takeLast : MethodName := ⟨RX3, "takeLast", "()I"⟩
abbrev cX3_replace : ByteArray := prog_5_method_7_code
def yX3_replace : MethodName := ⟨RX3, "replace", "(II)V"⟩
abbrev cX3_replaceRun : ByteArray := prog_5_method_8_code
def yX3_replaceRun : MethodName := ⟨RX3, "replaceRun", "(ILRaddleMarks$Row;II)V"⟩
abbrev cX3_clear : ByteArray := prog_5_method_9_code
def yX3_clear : MethodName := ⟨RX3, "clear", "()V"⟩
abbrev cX3_fillWithZeros : ByteArray := prog_5_method_10_code
def yX3_fillWithZeros : MethodName := ⟨RX3, "fillWithZeros", "(I)V"⟩
abbrev cX3_copyFrom : ByteArray := prog_5_method_11_code
def yX3_copyFrom : MethodName := ⟨RX3, "copyFrom", "(LRaddleMarks$Row;)V"⟩
def RX4 : String := "RaddleMarks$Seeker"
def TX4 : u_T := fun k => match k with
  | 0 => ("RaddleMarks$Seeker", "at", "I", false)
  | _ => ("RaddleMarks$Seeker", "strength", "I", false)
def tyX4 : Nat → FieldType := fun k => match k with
  | 0 => .int
  | _ => .int
theorem nmX4 : ∀ a, a < 2 → ∀ b, b < 2 → a ≠ b → (TX4 a).2.1 ≠ (TX4 b).2.1 := by decide +kernel
theorem tyX4_ok : ∀ k, k < 2 → parseFieldDescriptor (TX4 k).2.2.1 = some (tyX4 k) := by decide +kernel
abbrev cX4_init : ByteArray := prog_6_method_1_code
def yX4_init : MethodName := ⟨RX4, "<init>", "()V"⟩
abbrev cX4_copyFrom : ByteArray := prog_6_method_2_code
def yX4_copyFrom : MethodName := ⟨RX4, "copyFrom", "(LRaddleMarks$Seeker;)V"⟩
def RX5 : String := "RaddleMarks$Sheep"
def TX5 : u_T := fun k => match k with
  | 0 => ("RaddleMarks$Sheep", "kind", "I", false)
  | 1 => ("RaddleMarks$Sheep", "m", "I", false)
  | 2 => ("RaddleMarks$Sheep", "cell", "I", false)
  | 3 => ("RaddleMarks$Sheep", "warmth", "I", false)
  | 4 => ("RaddleMarks$Sheep", "mark", "I", false)
  | _ => ("RaddleMarks$Sheep", "found", "Z", false)
def tyX5 : Nat → FieldType := fun k => match k with
  | 0 => .int
  | 1 => .int
  | 2 => .int
  | 3 => .int
  | 4 => .int
  | _ => .boolean
theorem nmX5 : ∀ a, a < 6 → ∀ b, b < 6 → a ≠ b → (TX5 a).2.1 ≠ (TX5 b).2.1 := by decide +kernel
theorem tyX5_ok : ∀ k, k < 6 → parseFieldDescriptor (TX5 k).2.2.1 = some (tyX5 k) := by decide +kernel
abbrev cX5_init : ByteArray := prog_7_method_1_code
def yX5_init : MethodName := ⟨RX5, "<init>", "()V"⟩
abbrev cX5_copyFrom : ByteArray := prog_7_method_2_code
def yX5_copyFrom : MethodName := ⟨RX5, "copyFrom", "(LRaddleMarks$Sheep;)V"⟩
abbrev cX5_isLost : ByteArray := prog_7_method_3_code
def yX5_isLost : MethodName := ⟨RX5, "isLost", "()Z"⟩
abbrev cX5_isSought : ByteArray := prog_7_method_4_code
def yX5_isSought : MethodName := ⟨RX5, "isSought", "()Z"⟩
abbrev cX5_heard : ByteArray := prog_7_method_5_code
def yX5_heard : MethodName := ⟨RX5, "heard", "(I)I"⟩
abbrev cX5_heardAsLamb : ByteArray := prog_7_method_6_code
def yX5_heardAsLamb : MethodName := ⟨RX5, "heardAsLamb", "()I"⟩
abbrev cX5_cold : ByteArray := prog_7_method_7_code
def yX5_cold : MethodName := ⟨RX5, "cold", "(I)I"⟩
def RX6 : String := "RaddleMarks$Sheet"
def TX6 : u_T := fun k => match k with
  | 0 => ("RaddleMarks$Sheet", "numbers", "LRaddleMarks$Row;", true)
  | _ => ("RaddleMarks$Sheet", "bits", "I", false)
def tyX6 : Nat → FieldType := fun k => match k with
  | 0 => .object "RaddleMarks$Row"
  | _ => .int
theorem nmX6 : ∀ a, a < 2 → ∀ b, b < 2 → a ≠ b → (TX6 a).2.1 ≠ (TX6 b).2.1 := by decide +kernel
theorem tyX6_ok : ∀ k, k < 2 → parseFieldDescriptor (TX6 k).2.2.1 = some (tyX6 k) := by decide +kernel
abbrev cX6_init : ByteArray := prog_8_method_1_code
def yX6_init : MethodName := ⟨RX6, "<init>", "()V"⟩
abbrev cX6_isMissing : ByteArray := prog_8_method_2_code
def yX6_isMissing : MethodName := ⟨RX6, "isMissing", "()Z"⟩
abbrev cX6_begin : ByteArray := prog_8_method_3_code
def yX6_begin : MethodName := ⟨RX6, "begin", "(II)V"⟩
abbrev cX6_lowestBits : ByteArray := prog_8_method_4_code
def yX6_lowestBits : MethodName := ⟨RX6, "lowestBits", "(I)I"⟩
def RX7 : String := "RaddleMarks$Voices"
def TX7 : u_T := fun k => match k with
  | 0 => ("RaddleMarks$Voices", "trace", "LRaddleMarks$Row;", true)
  | 1 => ("RaddleMarks$Voices", "kind", "I", false)
  | 2 => ("RaddleMarks$Voices", "n", "I", false)
  | _ => ("RaddleMarks$Voices", "m", "I", false)
def tyX7 : Nat → FieldType := fun k => match k with
  | 0 => .object "RaddleMarks$Row"
  | 1 => .int
  | 2 => .int
  | _ => .int
theorem nmX7 : ∀ a, a < 4 → ∀ b, b < 4 → a ≠ b → (TX7 a).2.1 ≠ (TX7 b).2.1 := by decide +kernel
theorem tyX7_ok : ∀ k, k < 4 → parseFieldDescriptor (TX7 k).2.2.1 = some (tyX7 k) := by decide +kernel
abbrev cX7_init : ByteArray := prog_9_method_1_code
def yX7_init : MethodName := ⟨RX7, "<init>", "()V"⟩
abbrev cX7_raise : ByteArray := prog_9_method_2_code
def yX7_raise : MethodName := ⟨RX7, "raise", "(IIIII)I"⟩
abbrev cX7_own : ByteArray := prog_9_method_3_code
def yX7_own : MethodName := ⟨RX7, "own", "(III)I"⟩
abbrev cX7_above : ByteArray := prog_9_method_4_code
def yX7_above : MethodName := ⟨RX7, "above", "(IIII)I"⟩
abbrev cX7_speak : ByteArray := prog_9_method_5_code
def yX7_speak : MethodName := ⟨RX7, "speak", "(IIII)I"⟩
abbrev cX7_bodyFrom : ByteArray := prog_9_method_6_code
def yX7_bodyFrom : MethodName := ⟨RX7, "bodyFrom", "(II)I"⟩
abbrev cX7_workOut : ByteArray := prog_9_method_7_code
def yX7_workOut : MethodName := ⟨RX7, "workOut", "(III)I"⟩
def RX8 : String := "RaddleMarks$World"
def TX8 : u_T := fun k => match k with
  | 0 => ("RaddleMarks$World", "moor", "LRaddleMarks$Moor;", true)
  | 1 => ("RaddleMarks$World", "tape", "LRaddleMarks$Row;", true)
  | 2 => ("RaddleMarks$World", "waiting", "LRaddleMarks$Row;", true)
  | _ => ("RaddleMarks$World", "z", "I", false)
def tyX8 : Nat → FieldType := fun k => match k with
  | 0 => .object "RaddleMarks$Moor"
  | 1 => .object "RaddleMarks$Row"
  | 2 => .object "RaddleMarks$Row"
  | _ => .int
theorem nmX8 : ∀ a, a < 4 → ∀ b, b < 4 → a ≠ b → (TX8 a).2.1 ≠ (TX8 b).2.1 := by decide +kernel
theorem tyX8_ok : ∀ k, k < 4 → parseFieldDescriptor (TX8 k).2.2.1 = some (tyX8 k) := by decide +kernel
abbrev cX8_init : ByteArray := prog_10_method_1_code
def yX8_init : MethodName := ⟨RX8, "<init>", "()V"⟩
abbrev cX8_drift : ByteArray := prog_10_method_2_code
def yX8_drift : MethodName := ⟨RX8, "drift", "()V"⟩
abbrev cX8_copyFrom : ByteArray := prog_10_method_3_code
def yX8_copyFrom : MethodName := ⟨RX8, "copyFrom", "(LRaddleMarks$World;)V"⟩
def RX9 : String := "RaddleMarks"
def TX9 : u_T := fun k => match k with
  | 0 => ("RaddleMarks", "now", "LRaddleMarks$World;", true)
  | 1 => ("RaddleMarks", "kept", "LRaddleMarks$World;", true)
  | 2 => ("RaddleMarks", "thought", "LRaddleMarks$Moor;", true)
  | 3 => ("RaddleMarks", "reader", "LRaddleMarks$Reader;", true)
  | 4 => ("RaddleMarks", "voices", "LRaddleMarks$Voices;", true)
  | 5 => ("RaddleMarks", "sheets", "[LRaddleMarks$Sheet;", true)
  | 6 => ("RaddleMarks", "refusals", "[I", true)
  | _ => ("RaddleMarks", "images", "I", false)
def tyX9 : Nat → FieldType := fun k => match k with
  | 0 => .object "RaddleMarks$World"
  | 1 => .object "RaddleMarks$World"
  | 2 => .object "RaddleMarks$Moor"
  | 3 => .object "RaddleMarks$Reader"
  | 4 => .object "RaddleMarks$Voices"
  | 5 => .array (.object "RaddleMarks$Sheet")
  | 6 => .array .int
  | _ => .int
theorem nmX9 : ∀ a, a < 8 → ∀ b, b < 8 → a ≠ b → (TX9 a).2.1 ≠ (TX9 b).2.1 := by decide +kernel
theorem tyX9_ok : ∀ k, k < 8 → parseFieldDescriptor (TX9 k).2.2.1 = some (tyX9 k) := by decide +kernel
abbrev cX9_init : ByteArray := prog_1_method_1_code
def yX9_init : MethodName := ⟨RX9, "<init>", "()V"⟩
abbrev cX9_snow : ByteArray := prog_1_method_2_code
def yX9_snow : MethodName := ⟨RX9, "snow", "(II)I"⟩
abbrev cX9_ofCell : ByteArray := prog_1_method_3_code
def yX9_ofCell : MethodName := ⟨RX9, "ofCell", "(II)I"⟩
abbrev cX9_seeker : ByteArray := prog_1_method_4_code
def yX9_seeker : MethodName := ⟨RX9, "seeker", "(II)I"⟩
abbrev cX9_ofSeeker : ByteArray := prog_1_method_5_code
def yX9_ofSeeker : MethodName := ⟨RX9, "ofSeeker", "(II)I"⟩
abbrev cX9_send : ByteArray := prog_1_method_6_code
def yX9_send : MethodName := ⟨RX9, "send", "(III)I"⟩
abbrev cX9_sheep : ByteArray := prog_1_method_7_code
def yX9_sheep : MethodName := ⟨RX9, "sheep", "(IIII)I"⟩
abbrev cX9_ofSheep : ByteArray := prog_1_method_8_code
def yX9_ofSheep : MethodName := ⟨RX9, "ofSheep", "(II)I"⟩
abbrev cX9_change : ByteArray := prog_1_method_9_code
def yX9_change : MethodName := ⟨RX9, "change", "(III)I"⟩
abbrev cX9_become : ByteArray := prog_1_method_10_code
def yX9_become : MethodName := ⟨RX9, "become", "(II)I"⟩
abbrev cX9_as : ByteArray := prog_1_method_11_code
def yX9_as : MethodName := ⟨RX9, "as", "(II)I"⟩
abbrev cX9_feed : ByteArray := prog_1_method_12_code
def yX9_feed : MethodName := ⟨RX9, "feed", "(JI)I"⟩
abbrev cX9_text : ByteArray := prog_1_method_13_code
def yX9_text : MethodName := ⟨RX9, "text", "(I)I"⟩
abbrev cX9_law : ByteArray := prog_1_method_14_code
def yX9_law : MethodName := ⟨RX9, "law", "(IIII)I"⟩
abbrev cX9_hours : ByteArray := prog_1_method_15_code
def yX9_hours : MethodName := ⟨RX9, "hours", "(I)I"⟩
abbrev cX9_loose : ByteArray := prog_1_method_16_code
def yX9_loose : MethodName := ⟨RX9, "loose", "(I)I"⟩
abbrev cX9_then : ByteArray := prog_1_method_17_code
def yX9_then : MethodName := ⟨RX9, "then", "(III)I"⟩
abbrev cX9_when : ByteArray := prog_1_method_18_code
def yX9_when : MethodName := ⟨RX9, "when", "(I)I"⟩
abbrev cX9_saved : ByteArray := prog_1_method_19_code
def yX9_saved : MethodName := ⟨RX9, "saved", "()I"⟩
abbrev cX9_add : ByteArray := prog_1_method_20_code
def yX9_add : MethodName := ⟨RX9, "add", "(II)I"⟩
abbrev cX9_start : ByteArray := prog_1_method_21_code
def yX9_start : MethodName := ⟨RX9, "start", "(III)I"⟩
abbrev cX9_missed : ByteArray := prog_1_method_22_code
def yX9_missed : MethodName := ⟨RX9, "missed", "(II)I"⟩
abbrev cX9_nobody : ByteArray := prog_1_method_23_code
def yX9_nobody : MethodName := ⟨RX9, "nobody", "()I"⟩
abbrev cX9_lies : ByteArray := prog_1_method_24_code
def yX9_lies : MethodName := ⟨RX9, "lies", "(III)I"⟩
abbrev cX9_order : ByteArray := prog_1_method_25_code
def yX9_order : MethodName := ⟨RX9, "order", "(I)I"⟩
abbrev cX9_strong : ByteArray := prog_1_method_26_code
def yX9_strong : MethodName := ⟨RX9, "strong", "(III)I"⟩
abbrev cX9_odds : ByteArray := prog_1_method_27_code
def yX9_odds : MethodName := ⟨RX9, "odds", "(III)I"⟩
abbrev cX9_seed : ByteArray := prog_1_method_28_code
def yX9_seed : MethodName := ⟨RX9, "seed", "(I)I"⟩
abbrev cX9_voice : ByteArray := prog_1_method_29_code
def yX9_voice : MethodName := ⟨RX9, "voice", "(III)I"⟩
abbrev cX9_trace : ByteArray := prog_1_method_30_code
def yX9_trace : MethodName := ⟨RX9, "trace", "(I)I"⟩
abbrev cX9_sheet : ByteArray := prog_1_method_31_code
def yX9_sheet : MethodName := ⟨RX9, "sheet", "(III)I"⟩
abbrev cX9_put : ByteArray := prog_1_method_32_code
def yX9_put : MethodName := ⟨RX9, "put", "(III)I"⟩
abbrev cX9_move : ByteArray := prog_1_method_33_code
def yX9_move : MethodName := ⟨RX9, "move", "(IIIII)I"⟩
abbrev cX9_snows : ByteArray := prog_1_method_34_code
def yX9_snows : MethodName := ⟨RX9, "snows", "(I)I"⟩
abbrev cX9_judge : ByteArray := prog_1_method_35_code
def yX9_judge : MethodName := ⟨RX9, "judge", "(I)I"⟩
abbrev cX9_image : ByteArray := prog_1_method_36_code
def yX9_image : MethodName := ⟨RX9, "image", "()I"⟩
abbrev cX9_restore : ByteArray := prog_1_method_37_code
def yX9_restore : MethodName := ⟨RX9, "restore", "()I"⟩
abbrev cX9_tell : ByteArray := prog_1_method_38_code
def yX9_tell : MethodName := ⟨RX9, "tell", "(I)I"⟩
abbrev cX9_check : ByteArray := prog_1_method_39_code
def yX9_check : MethodName := ⟨RX9, "check", "()I"⟩
abbrev cX9_count : ByteArray := prog_1_method_40_code
def yX9_count : MethodName := ⟨RX9, "count", "(I)I"⟩
abbrev cX9_told : ByteArray := prog_1_method_41_code
def yX9_told : MethodName := ⟨RX9, "told", "(I)I"⟩
abbrev cX9_refuse : ByteArray := prog_1_method_42_code
def yX9_refuse : MethodName := ⟨RX9, "refuse", "(I)I"⟩
abbrev cX9_isWithin : ByteArray := prog_1_method_43_code
def yX9_isWithin : MethodName := ⟨RX9, "isWithin", "(II)Z"⟩
abbrev cX9_isCell : ByteArray := prog_1_method_44_code
def yX9_isCell : MethodName := ⟨RX9, "isCell", "(I)Z"⟩
abbrev cX9_isSheet : ByteArray := prog_1_method_45_code
def yX9_isSheet : MethodName := ⟨RX9, "isSheet", "(I)Z"⟩
abbrev cX9_isKindWithM : ByteArray := prog_1_method_46_code
def yX9_isKindWithM : MethodName := ⟨RX9, "isKindWithM", "(I)Z"⟩
abbrev cX9_isSeeker : ByteArray := prog_1_method_47_code
def yX9_isSeeker : MethodName := ⟨RX9, "isSeeker", "(I)Z"⟩
abbrev cX9_isSheep : ByteArray := prog_1_method_48_code
def yX9_isSheep : MethodName := ⟨RX9, "isSheep", "(I)Z"⟩
abbrev cX9_isMark : ByteArray := prog_1_method_49_code
def yX9_isMark : MethodName := ⟨RX9, "isMark", "(I)Z"⟩
abbrev cX9_isChange : ByteArray := prog_1_method_50_code
def yX9_isChange : MethodName := ⟨RX9, "isChange", "(II)Z"⟩
abbrev cX9_isOfKind : ByteArray := prog_1_method_51_code
def yX9_isOfKind : MethodName := ⟨RX9, "isOfKind", "(II)Z"⟩
abbrev cX9_thinkFromNow : ByteArray := prog_1_method_52_code
def yX9_thinkFromNow : MethodName := ⟨RX9, "thinkFromNow", "()V"⟩
abbrev cX9_partOfFraction : ByteArray := prog_1_method_53_code
def yX9_partOfFraction : MethodName := ⟨RX9, "partOfFraction", "(II)I"⟩
def RX10 : String := "RaddleMarksModel"
def TX10 : u_T := fun k => match k with
  | 0 => ("RaddleMarksModel", "row", "[I", true)
  | 1 => ("RaddleMarksModel", "kept", "[I", true)
  | 2 => ("RaddleMarksModel", "tried", "[I", true)
  | 3 => ("RaddleMarksModel", "isKept", "Z", false)
  | 4 => ("RaddleMarksModel", "images", "I", false)
  | 5 => ("RaddleMarksModel", "found", "[I", true)
  | 6 => ("RaddleMarksModel", "use", "I", false)
  | 7 => ("RaddleMarksModel", "at", "I", false)
  | 8 => ("RaddleMarksModel", "end", "I", false)
  | 9 => ("RaddleMarksModel", "open", "I", false)
  | 10 => ("RaddleMarksModel", "steps", "I", false)
  | 11 => ("RaddleMarksModel", "good", "Z", false)
  | 12 => ("RaddleMarksModel", "made", "[I", true)
  | 13 => ("RaddleMarksModel", "pile", "[I", true)
  | 14 => ("RaddleMarksModel", "names", "[I", true)
  | 15 => ("RaddleMarksModel", "finds", "[I", true)
  | 16 => ("RaddleMarksModel", "bitsOf", "[I", true)
  | 17 => ("RaddleMarksModel", "sizeOf", "[I", true)
  | 18 => ("RaddleMarksModel", "sheets", "[I", true)
  | 19 => ("RaddleMarksModel", "moved", "[I", true)
  | 20 => ("RaddleMarksModel", "traced", "[I", true)
  | 21 => ("RaddleMarksModel", "tracedMany", "I", false)
  | 22 => ("RaddleMarksModel", "voiceKind", "I", false)
  | 23 => ("RaddleMarksModel", "voiceN", "I", false)
  | _ => ("RaddleMarksModel", "voiceM", "I", false)
def tyX10 : Nat → FieldType := fun k => match k with
  | 0 => .array .int
  | 1 => .array .int
  | 2 => .array .int
  | 3 => .boolean
  | 4 => .int
  | 5 => .array .int
  | 6 => .int
  | 7 => .int
  | 8 => .int
  | 9 => .int
  | 10 => .int
  | 11 => .boolean
  | 12 => .array .int
  | 13 => .array .int
  | 14 => .array .int
  | 15 => .array .int
  | 16 => .array .int
  | 17 => .array .int
  | 18 => .array .int
  | 19 => .array .int
  | 20 => .array .int
  | 21 => .int
  | 22 => .int
  | 23 => .int
  | _ => .int
theorem nmX10 : ∀ a, a < 25 → ∀ b, b < 25 → a ≠ b → (TX10 a).2.1 ≠ (TX10 b).2.1 := by decide +kernel
theorem tyX10_ok : ∀ k, k < 25 → parseFieldDescriptor (TX10 k).2.2.1 = some (tyX10 k) := by decide +kernel
abbrev cX10_init : ByteArray := prog_12_method_1_code
def yX10_init : MethodName := ⟨RX10, "<init>", "()V"⟩
abbrev cX10_in : ByteArray := prog_12_method_2_code
def yX10_in : MethodName := ⟨RX10, "in", "(III)Z"⟩
abbrev cX10_errs : ByteArray := prog_12_method_3_code
def yX10_errs : MethodName := ⟨RX10, "errs", "(I)I"⟩
abbrev cX10_held : ByteArray := prog_12_method_4_code
def yX10_held : MethodName := ⟨RX10, "held", "(III)I"⟩
abbrev cX10_moveAll : ByteArray := prog_12_method_5_code
def yX10_moveAll : MethodName := ⟨RX10, "moveAll", "([I[I)V"⟩
abbrev cX10_bits : ByteArray := prog_12_method_6_code
def yX10_bits : MethodName := ⟨RX10, "bits", "(I)I"⟩
abbrev cX10_its : ByteArray := prog_12_method_7_code
def yX10_its : MethodName := ⟨RX10, "its", "(II)I"⟩
abbrev cX10_gets : ByteArray := prog_12_method_8_code
def yX10_gets : MethodName := ⟨RX10, "gets", "(III)V"⟩
abbrev cX10_at : ByteArray := prog_12_method_9_code
def yX10_at : MethodName := ⟨RX10, "at", "(I)I"⟩
abbrev cX10_isCell : ByteArray := prog_12_method_10_code
def yX10_isCell : MethodName := ⟨RX10, "isCell", "(I)Z"⟩
abbrev cX10_isSeeker : ByteArray := prog_12_method_11_code
def yX10_isSeeker : MethodName := ⟨RX10, "isSeeker", "(I)Z"⟩
abbrev cX10_isSheep : ByteArray := prog_12_method_12_code
def yX10_isSheep : MethodName := ⟨RX10, "isSheep", "(I)Z"⟩
abbrev cX10_isMark : ByteArray := prog_12_method_13_code
def yX10_isMark : MethodName := ⟨RX10, "isMark", "(I)Z"⟩
abbrev cX10_becomes : ByteArray := prog_12_method_14_code
def yX10_becomes : MethodName := ⟨RX10, "becomes", "(II)I"⟩
abbrev cX10_snow : ByteArray := prog_12_method_15_code
def yX10_snow : MethodName := ⟨RX10, "snow", "(II)I"⟩
abbrev cX10_thereIn : ByteArray := prog_12_method_16_code
def yX10_thereIn : MethodName := ⟨RX10, "thereIn", "(IZ)I"⟩
abbrev cX10_ofCell : ByteArray := prog_12_method_17_code
def yX10_ofCell : MethodName := ⟨RX10, "ofCell", "(II)I"⟩
abbrev cX10_seeker : ByteArray := prog_12_method_18_code
def yX10_seeker : MethodName := ⟨RX10, "seeker", "(II)I"⟩
abbrev cX10_ofSeeker : ByteArray := prog_12_method_19_code
def yX10_ofSeeker : MethodName := ⟨RX10, "ofSeeker", "(II)I"⟩
abbrev cX10_send : ByteArray := prog_12_method_20_code
def yX10_send : MethodName := ⟨RX10, "send", "(III)I"⟩
abbrev cX10_sheep : ByteArray := prog_12_method_21_code
def yX10_sheep : MethodName := ⟨RX10, "sheep", "(IIII)I"⟩
abbrev cX10_ofSheep : ByteArray := prog_12_method_22_code
def yX10_ofSheep : MethodName := ⟨RX10, "ofSheep", "(II)I"⟩
abbrev cX10_change : ByteArray := prog_12_method_23_code
def yX10_change : MethodName := ⟨RX10, "change", "(III)I"⟩
abbrev cX10_become : ByteArray := prog_12_method_24_code
def yX10_become : MethodName := ⟨RX10, "become", "(II)I"⟩
abbrev cX10_above : ByteArray := prog_12_method_25_code
def yX10_above : MethodName := ⟨RX10, "above", "(I)I"⟩
abbrev cX10_as : ByteArray := prog_12_method_26_code
def yX10_as : MethodName := ⟨RX10, "as", "(II)I"⟩
abbrev cX10_byteAt : ByteArray := prog_12_method_27_code
def yX10_byteAt : MethodName := ⟨RX10, "byteAt", "(I)I"⟩
abbrev cX10_isDigit : ByteArray := prog_12_method_28_code
def yX10_isDigit : MethodName := ⟨RX10, "isDigit", "(I)Z"⟩
abbrev cX10_adds : ByteArray := prog_12_method_29_code
def yX10_adds : MethodName := ⟨RX10, "adds", "(I)V"⟩
abbrev cX10_number : ByteArray := prog_12_method_30_code
def yX10_number : MethodName := ⟨RX10, "number", "()V"⟩
abbrev cX10_named : ByteArray := prog_12_method_31_code
def yX10_named : MethodName := ⟨RX10, "named", "(I)V"⟩
abbrev cX10_factor : ByteArray := prog_12_method_32_code
def yX10_factor : MethodName := ⟨RX10, "factor", "()V"⟩
abbrev cX10_product : ByteArray := prog_12_method_33_code
def yX10_product : MethodName := ⟨RX10, "product", "()V"⟩
abbrev cX10_sum : ByteArray := prog_12_method_34_code
def yX10_sum : MethodName := ⟨RX10, "sum", "()V"⟩
abbrev cX10_compared : ByteArray := prog_12_method_35_code
def yX10_compared : MethodName := ⟨RX10, "compared", "()V"⟩
abbrev cX10_both : ByteArray := prog_12_method_36_code
def yX10_both : MethodName := ⟨RX10, "both", "()V"⟩
abbrev cX10_whole : ByteArray := prog_12_method_37_code
def yX10_whole : MethodName := ⟨RX10, "whole", "()V"⟩
abbrev cX10_workedOut : ByteArray := prog_12_method_38_code
def yX10_workedOut : MethodName := ⟨RX10, "workedOut", "(III)I"⟩
abbrev cX10_walks : ByteArray := prog_12_method_39_code
def yX10_walks : MethodName := ⟨RX10, "walks", "(IIII)I"⟩
abbrev cX10_lawOf : ByteArray := prog_12_method_40_code
def yX10_lawOf : MethodName := ⟨RX10, "lawOf", "(IIII)I"⟩
abbrev cX10_law : ByteArray := prog_12_method_41_code
def yX10_law : MethodName := ⟨RX10, "law", "(IIII)I"⟩
abbrev cX10_feed : ByteArray := prog_12_method_42_code
def yX10_feed : MethodName := ⟨RX10, "feed", "(JI)I"⟩
abbrev cX10_text : ByteArray := prog_12_method_43_code
def yX10_text : MethodName := ⟨RX10, "text", "(I)I"⟩
abbrev cX10_heard : ByteArray := prog_12_method_44_code
def yX10_heard : MethodName := ⟨RX10, "heard", "(I)I"⟩
abbrev cX10_cold : ByteArray := prog_12_method_45_code
def yX10_cold : MethodName := ⟨RX10, "cold", "(I)I"⟩
abbrev cX10_isLost : ByteArray := prog_12_method_46_code
def yX10_isLost : MethodName := ⟨RX10, "isLost", "(I)Z"⟩
abbrev cX10_apart : ByteArray := prog_12_method_47_code
def yX10_apart : MethodName := ⟨RX10, "apart", "(II)I"⟩
abbrev cX10_outFor : ByteArray := prog_12_method_48_code
def yX10_outFor : MethodName := ⟨RX10, "outFor", "(I)I"⟩
abbrev cX10_seeks : ByteArray := prog_12_method_49_code
def yX10_seeks : MethodName := ⟨RX10, "seeks", "(I)V"⟩
abbrev cX10_oneHour : ByteArray := prog_12_method_50_code
def yX10_oneHour : MethodName := ⟨RX10, "oneHour", "()V"⟩
abbrev cX10_passes : ByteArray := prog_12_method_51_code
def yX10_passes : MethodName := ⟨RX10, "passes", "(I)V"⟩
abbrev cX10_foundSet : ByteArray := prog_12_method_52_code
def yX10_foundSet : MethodName := ⟨RX10, "foundSet", "()I"⟩
abbrev cX10_foundBehind : ByteArray := prog_12_method_53_code
def yX10_foundBehind : MethodName := ⟨RX10, "foundBehind", "(I)I"⟩
abbrev cX10_hours : ByteArray := prog_12_method_54_code
def yX10_hours : MethodName := ⟨RX10, "hours", "(I)I"⟩
abbrev cX10_drawn : ByteArray := prog_12_method_55_code
def yX10_drawn : MethodName := ⟨RX10, "drawn", "()I"⟩
abbrev cX10_loose : ByteArray := prog_12_method_56_code
def yX10_loose : MethodName := ⟨RX10, "loose", "(I)I"⟩
abbrev cX10_then : ByteArray := prog_12_method_57_code
def yX10_then : MethodName := ⟨RX10, "then", "(III)I"⟩
abbrev cX10_when : ByteArray := prog_12_method_58_code
def yX10_when : MethodName := ⟨RX10, "when", "(I)I"⟩
abbrev cX10_saved : ByteArray := prog_12_method_59_code
def yX10_saved : MethodName := ⟨RX10, "saved", "()I"⟩
abbrev cX10_add : ByteArray := prog_12_method_60_code
def yX10_add : MethodName := ⟨RX10, "add", "(II)I"⟩
abbrev cX10_start : ByteArray := prog_12_method_61_code
def yX10_start : MethodName := ⟨RX10, "start", "(III)I"⟩
abbrev cX10_missed : ByteArray := prog_12_method_62_code
def yX10_missed : MethodName := ⟨RX10, "missed", "(II)I"⟩
abbrev cX10_nobody : ByteArray := prog_12_method_63_code
def yX10_nobody : MethodName := ⟨RX10, "nobody", "()I"⟩
abbrev cX10_isSheet : ByteArray := prog_12_method_64_code
def yX10_isSheet : MethodName := ⟨RX10, "isSheet", "(I)Z"⟩
abbrev cX10_isSnowSo : ByteArray := prog_12_method_65_code
def yX10_isSnowSo : MethodName := ⟨RX10, "isSnowSo", "(I)Z"⟩
abbrev cX10_lies : ByteArray := prog_12_method_66_code
def yX10_lies : MethodName := ⟨RX10, "lies", "(III)I"⟩
abbrev cX10_order : ByteArray := prog_12_method_67_code
def yX10_order : MethodName := ⟨RX10, "order", "(I)I"⟩
abbrev cX10_strong : ByteArray := prog_12_method_68_code
def yX10_strong : MethodName := ⟨RX10, "strong", "(III)I"⟩
abbrev cX10_divisor : ByteArray := prog_12_method_69_code
def yX10_divisor : MethodName := ⟨RX10, "divisor", "(II)I"⟩
abbrev cX10_odds : ByteArray := prog_12_method_70_code
def yX10_odds : MethodName := ⟨RX10, "odds", "(III)I"⟩
abbrev cX10_seed : ByteArray := prog_12_method_71_code
def yX10_seed : MethodName := ⟨RX10, "seed", "(I)I"⟩
abbrev cX10_ran : ByteArray := prog_12_method_72_code
def yX10_ran : MethodName := ⟨RX10, "ran", "(I)V"⟩
abbrev cX10_bleatsIn : ByteArray := prog_12_method_73_code
def yX10_bleatsIn : MethodName := ⟨RX10, "bleatsIn", "(II)I"⟩
abbrev cX10_shiversIn : ByteArray := prog_12_method_74_code
def yX10_shiversIn : MethodName := ⟨RX10, "shiversIn", "(II)I"⟩
abbrev cX10_waitsIn : ByteArray := prog_12_method_75_code
def yX10_waitsIn : MethodName := ⟨RX10, "waitsIn", "(II)I"⟩
abbrev cX10_tellsIn : ByteArray := prog_12_method_76_code
def yX10_tellsIn : MethodName := ⟨RX10, "tellsIn", "(II)I"⟩
abbrev cX10_voice : ByteArray := prog_12_method_77_code
def yX10_voice : MethodName := ⟨RX10, "voice", "(III)I"⟩
abbrev cX10_trace : ByteArray := prog_12_method_78_code
def yX10_trace : MethodName := ⟨RX10, "trace", "(I)I"⟩
abbrev cX10_narrow : ByteArray := prog_12_method_79_code
def yX10_narrow : MethodName := ⟨RX10, "narrow", "(II)I"⟩
abbrev cX10_sheet : ByteArray := prog_12_method_80_code
def yX10_sheet : MethodName := ⟨RX10, "sheet", "(III)I"⟩
abbrev cX10_put : ByteArray := prog_12_method_81_code
def yX10_put : MethodName := ⟨RX10, "put", "(III)I"⟩
abbrev cX10_move : ByteArray := prog_12_method_82_code
def yX10_move : MethodName := ⟨RX10, "move", "(IIIII)I"⟩
abbrev cX10_snows : ByteArray := prog_12_method_83_code
def yX10_snows : MethodName := ⟨RX10, "snows", "(I)I"⟩
abbrev cX10_judge : ByteArray := prog_12_method_84_code
def yX10_judge : MethodName := ⟨RX10, "judge", "(I)I"⟩
abbrev cX10_image : ByteArray := prog_12_method_85_code
def yX10_image : MethodName := ⟨RX10, "image", "()I"⟩
abbrev cX10_restore : ByteArray := prog_12_method_86_code
def yX10_restore : MethodName := ⟨RX10, "restore", "()I"⟩
abbrev cX10_tell : ByteArray := prog_12_method_87_code
def yX10_tell : MethodName := ⟨RX10, "tell", "(I)I"⟩
abbrev cX10_check : ByteArray := prog_12_method_88_code
def yX10_check : MethodName := ⟨RX10, "check", "()I"⟩
abbrev cX10_snowOfAll : ByteArray := prog_12_method_89_code
def yX10_snowOfAll : MethodName := ⟨RX10, "snowOfAll", "()I"⟩
abbrev cX10_lostSet : ByteArray := prog_12_method_90_code
def yX10_lostSet : MethodName := ⟨RX10, "lostSet", "()I"⟩
abbrev cX10_count : ByteArray := prog_12_method_91_code
def yX10_count : MethodName := ⟨RX10, "count", "(I)I"⟩
abbrev cX10_told : ByteArray := prog_12_method_92_code
def yX10_told : MethodName := ⟨RX10, "told", "(I)I"⟩
def RJ6 : String := "java/lang/Integer"
abbrev cJ6_bitCount_0f7a4 : ByteArray := prog_13_method_49_code
def yJ6_bitCount_0f7a4 : MethodName := ⟨RJ6, "bitCount", "(I)I"⟩
def RJ9 : String := "java/lang/Math"
abbrev cJ9_abs_0f7a4 : ByteArray := prog_14_method_59_code
def yJ9_abs_0f7a4 : MethodName := ⟨RJ9, "abs", "(I)I"⟩
abbrev cJ9_max_7cf53 : ByteArray := prog_14_method_65_code
def yJ9_max_7cf53 : MethodName := ⟨RJ9, "max", "(II)I"⟩
abbrev cJ9_min_7cf53 : ByteArray := prog_14_method_69_code
def yJ9_min_7cf53 : MethodName := ⟨RJ9, "min", "(II)I"⟩
def RJ10 : String := "java/lang/System"
def lwg : List Cond := lw_tbl.filter goodWord
theorem mem_lwg {i : Nat} {w : Cond} (h : lw_tbl[i]? = some w) (hg : goodWord w = true) : w ∈ lwg := List.mem_filter.mpr ⟨List.mem_of_getElem? h, hg⟩
