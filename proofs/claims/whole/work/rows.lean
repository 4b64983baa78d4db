section
-- ===== PART A: goes FIRST, ahead of the names: the tables' words, and 'selects' of the private methods out of them =====
/-- a private method of a class that the tables say can be made, by its rows of tables_1 -/
def lw_okq (q : MethodName × Nat) : Prop := (q.1.cls ≠ "java/lang/invoke/MethodHandle" ∧ q.1.cls ≠ "java/lang/invoke/VarHandle") ∧ Cond.instantiable q.1.cls q.2 ∈ tables_1 ∧ Cond.privateMethod q.1 ∈ tables_1 ∧ Cond.instanceMethod q.1 ∈ tables_1
theorem lw_p0 : lw_okq (⟨"KiteTrays", "found", "(I)I"⟩, 10) := ⟨⟨by decide +kernel, by decide +kernel⟩, List.mem_of_getElem? (i := 14) (by decide +kernel), List.mem_of_getElem? (i := 281) (by decide +kernel), List.mem_of_getElem? (i := 282) (by decide +kernel)⟩
theorem lw_p1 : lw_okq (⟨"KiteTrays", "unfound", "(I)I"⟩, 10) := ⟨⟨by decide +kernel, by decide +kernel⟩, List.mem_of_getElem? (i := 14) (by decide +kernel), List.mem_of_getElem? (i := 290) (by decide +kernel), List.mem_of_getElem? (i := 291) (by decide +kernel)⟩
theorem lw_p2 : lw_okq (⟨"KiteTrays$Row", "cut", "(I)I"⟩, 3) := ⟨⟨by decide +kernel, by decide +kernel⟩, List.mem_of_getElem? (i := 218) (by decide +kernel), List.mem_of_getElem? (i := 310) (by decide +kernel), List.mem_of_getElem? (i := 311) (by decide +kernel)⟩
theorem lw_p3 : lw_okq (⟨"KiteTrays$Tape", "readLaw", "(LKiteTrays$Roof;)Z"⟩, 4) := ⟨⟨by decide +kernel, by decide +kernel⟩, List.mem_of_getElem? (i := 24) (by decide +kernel), List.mem_of_getElem? (i := 346) (by decide +kernel), List.mem_of_getElem? (i := 347) (by decide +kernel)⟩
theorem lw_p4 : lw_okq (⟨"KiteTrays$Tape", "take", "(I)Z"⟩, 4) := ⟨⟨by decide +kernel, by decide +kernel⟩, List.mem_of_getElem? (i := 24) (by decide +kernel), List.mem_of_getElem? (i := 350) (by decide +kernel), List.mem_of_getElem? (i := 351) (by decide +kernel)⟩
theorem lw_p5 : lw_okq (⟨"KiteTrays$Tape", "next", "()I"⟩, 4) := ⟨⟨by decide +kernel, by decide +kernel⟩, List.mem_of_getElem? (i := 24) (by decide +kernel), List.mem_of_getElem? (i := 354) (by decide +kernel), List.mem_of_getElem? (i := 355) (by decide +kernel)⟩
theorem lw_p6 : lw_okq (⟨"KiteTrays$Tape", "byteAt", "(I)I"⟩, 4) := ⟨⟨by decide +kernel, by decide +kernel⟩, List.mem_of_getElem? (i := 24) (by decide +kernel), List.mem_of_getElem? (i := 358) (by decide +kernel), List.mem_of_getElem? (i := 359) (by decide +kernel)⟩
theorem lw_p7 : lw_okq (⟨"KiteTrays$Tape", "hasFault", "(I)Z"⟩, 4) := ⟨⟨by decide +kernel, by decide +kernel⟩, List.mem_of_getElem? (i := 24) (by decide +kernel), List.mem_of_getElem? (i := 362) (by decide +kernel), List.mem_of_getElem? (i := 363) (by decide +kernel)⟩
theorem lw_p8 : lw_okq (⟨"KiteTrays$Tape", "takeNumber", "(II)I"⟩, 4) := ⟨⟨by decide +kernel, by decide +kernel⟩, List.mem_of_getElem? (i := 24) (by decide +kernel), List.mem_of_getElem? (i := 366) (by decide +kernel), List.mem_of_getElem? (i := 367) (by decide +kernel)⟩
theorem lw_p9 : lw_okq (⟨"KiteTrays$Tape", "figuresHere", "()I"⟩, 4) := ⟨⟨by decide +kernel, by decide +kernel⟩, List.mem_of_getElem? (i := 24) (by decide +kernel), List.mem_of_getElem? (i := 370) (by decide +kernel), List.mem_of_getElem? (i := 371) (by decide +kernel)⟩
theorem lw_p10 : lw_okq (⟨"KiteTrays$Tape", "readWinds", "(LKiteTrays$Roof;)Z"⟩, 4) := ⟨⟨by decide +kernel, by decide +kernel⟩, List.mem_of_getElem? (i := 24) (by decide +kernel), List.mem_of_getElem? (i := 377) (by decide +kernel), List.mem_of_getElem? (i := 378) (by decide +kernel)⟩
theorem lw_p11 : lw_okq (⟨"KiteTrays$Tape", "readPapers", "(LKiteTrays$Roof;)Z"⟩, 4) := ⟨⟨by decide +kernel, by decide +kernel⟩, List.mem_of_getElem? (i := 24) (by decide +kernel), List.mem_of_getElem? (i := 381) (by decide +kernel), List.mem_of_getElem? (i := 382) (by decide +kernel)⟩
theorem lw_p12 : lw_okq (⟨"KiteTrays$Tape", "readPaper", "(LKiteTrays$Paper;)Z"⟩, 4) := ⟨⟨by decide +kernel, by decide +kernel⟩, List.mem_of_getElem? (i := 24) (by decide +kernel), List.mem_of_getElem? (i := 388) (by decide +kernel), List.mem_of_getElem? (i := 389) (by decide +kernel)⟩
theorem lw_p13 : lw_okq (⟨"KiteTrays$Tape", "takeEnd", "()Z"⟩, 4) := ⟨⟨by decide +kernel, by decide +kernel⟩, List.mem_of_getElem? (i := 24) (by decide +kernel), List.mem_of_getElem? (i := 397) (by decide +kernel), List.mem_of_getElem? (i := 398) (by decide +kernel)⟩
theorem lw_p14 : lw_okq (⟨"KiteTrays$Roof", "isPaired", "()Z"⟩, 7) := ⟨⟨by decide +kernel, by decide +kernel⟩, List.mem_of_getElem? (i := 53) (by decide +kernel), List.mem_of_getElem? (i := 454) (by decide +kernel), List.mem_of_getElem? (i := 455) (by decide +kernel)⟩
theorem lw_p15 : lw_okq (⟨"KiteTrays$Foretelling", "passDraft", "(I)V"⟩, 10) := ⟨⟨by decide +kernel, by decide +kernel⟩, List.mem_of_getElem? (i := 47) (by decide +kernel), List.mem_of_getElem? (i := 544) (by decide +kernel), List.mem_of_getElem? (i := 545) (by decide +kernel)⟩
def lw_privs_1 : List (MethodName × Nat) := [(⟨"KiteTrays", "found", "(I)I"⟩, 10), (⟨"KiteTrays", "unfound", "(I)I"⟩, 10), (⟨"KiteTrays$Row", "cut", "(I)I"⟩, 3), (⟨"KiteTrays$Tape", "readLaw", "(LKiteTrays$Roof;)Z"⟩, 4), (⟨"KiteTrays$Tape", "take", "(I)Z"⟩, 4), (⟨"KiteTrays$Tape", "next", "()I"⟩, 4), (⟨"KiteTrays$Tape", "byteAt", "(I)I"⟩, 4), (⟨"KiteTrays$Tape", "hasFault", "(I)Z"⟩, 4), (⟨"KiteTrays$Tape", "takeNumber", "(II)I"⟩, 4), (⟨"KiteTrays$Tape", "figuresHere", "()I"⟩, 4), (⟨"KiteTrays$Tape", "readWinds", "(LKiteTrays$Roof;)Z"⟩, 4), (⟨"KiteTrays$Tape", "readPapers", "(LKiteTrays$Roof;)Z"⟩, 4), (⟨"KiteTrays$Tape", "readPaper", "(LKiteTrays$Paper;)Z"⟩, 4), (⟨"KiteTrays$Tape", "takeEnd", "()Z"⟩, 4), (⟨"KiteTrays$Roof", "isPaired", "()Z"⟩, 7), (⟨"KiteTrays$Foretelling", "passDraft", "(I)V"⟩, 10)]
theorem lw_r1 : ∀ q ∈ lw_privs_1, lw_okq q := List.forall_mem_cons.mpr ⟨lw_p0, List.forall_mem_cons.mpr ⟨lw_p1, List.forall_mem_cons.mpr ⟨lw_p2, List.forall_mem_cons.mpr ⟨lw_p3, List.forall_mem_cons.mpr ⟨lw_p4, List.forall_mem_cons.mpr ⟨lw_p5, List.forall_mem_cons.mpr ⟨lw_p6, List.forall_mem_cons.mpr ⟨lw_p7, List.forall_mem_cons.mpr ⟨lw_p8, List.forall_mem_cons.mpr ⟨lw_p9, List.forall_mem_cons.mpr ⟨lw_p10, List.forall_mem_cons.mpr ⟨lw_p11, List.forall_mem_cons.mpr ⟨lw_p12, List.forall_mem_cons.mpr ⟨lw_p13, List.forall_mem_cons.mpr ⟨lw_p14, List.forall_mem_cons.mpr ⟨lw_p15, fun _ h => absurd h List.not_mem_nil⟩⟩⟩⟩⟩⟩⟩⟩⟩⟩⟩⟩⟩⟩⟩⟩
theorem lw_p16 : lw_okq (⟨"KiteTrays$Foretelling", "highBy", "(III)I"⟩, 10) := ⟨⟨by decide +kernel, by decide +kernel⟩, List.mem_of_getElem? (i := 47) (by decide +kernel), List.mem_of_getElem? (i := 600) (by decide +kernel), List.mem_of_getElem? (i := 601) (by decide +kernel)⟩
theorem lw_p17 : lw_okq (⟨"KiteTrays$Foretelling", "draftWith", "(III)V"⟩, 10) := ⟨⟨by decide +kernel, by decide +kernel⟩, List.mem_of_getElem? (i := 47) (by decide +kernel), List.mem_of_getElem? (i := 620) (by decide +kernel), List.mem_of_getElem? (i := 621) (by decide +kernel)⟩
theorem lw_p18 : lw_okq (⟨"KiteTrays$Roof", "quarrel", "(II)Z"⟩, 7) := ⟨⟨by decide +kernel, by decide +kernel⟩, List.mem_of_getElem? (i := 53) (by decide +kernel), List.mem_of_getElem? (i := 642) (by decide +kernel), List.mem_of_getElem? (i := 643) (by decide +kernel)⟩
theorem lw_p19 : lw_okq (⟨"KiteTrays", "watchRow", "(IIII)I"⟩, 10) := ⟨⟨by decide +kernel, by decide +kernel⟩, List.mem_of_getElem? (i := 14) (by decide +kernel), List.mem_of_getElem? (i := 655) (by decide +kernel), List.mem_of_getElem? (i := 656) (by decide +kernel)⟩
theorem lw_p20 : lw_okq (⟨"KiteTrays$Foretelling", "search", "(IIII)V"⟩, 10) := ⟨⟨by decide +kernel, by decide +kernel⟩, List.mem_of_getElem? (i := 47) (by decide +kernel), List.mem_of_getElem? (i := 667) (by decide +kernel), List.mem_of_getElem? (i := 668) (by decide +kernel)⟩
theorem lw_p21 : lw_okq (⟨"KiteTrays$Foretelling", "draftIsAsSeen", "()Z"⟩, 10) := ⟨⟨by decide +kernel, by decide +kernel⟩, List.mem_of_getElem? (i := 47) (by decide +kernel), List.mem_of_getElem? (i := 671) (by decide +kernel), List.mem_of_getElem? (i := 672) (by decide +kernel)⟩
theorem lw_p22 : lw_okq (⟨"KiteTrays$Foretelling", "noteFitting", "(I)V"⟩, 10) := ⟨⟨by decide +kernel, by decide +kernel⟩, List.mem_of_getElem? (i := 47) (by decide +kernel), List.mem_of_getElem? (i := 676) (by decide +kernel), List.mem_of_getElem? (i := 677) (by decide +kernel)⟩
theorem lw_p23 : lw_okq (⟨"KiteTrays$Foretelling", "drawAct", "(I)V"⟩, 10) := ⟨⟨by decide +kernel, by decide +kernel⟩, List.mem_of_getElem? (i := 47) (by decide +kernel), List.mem_of_getElem? (i := 724) (by decide +kernel), List.mem_of_getElem? (i := 725) (by decide +kernel)⟩
theorem lw_p24 : lw_okq (⟨"KiteTrays$Asking", "give", "(ILKiteTrays$Paper;II)I"⟩, 2) := ⟨⟨by decide +kernel, by decide +kernel⟩, List.mem_of_getElem? (i := 206) (by decide +kernel), List.mem_of_getElem? (i := 771) (by decide +kernel), List.mem_of_getElem? (i := 772) (by decide +kernel)⟩
theorem lw_p25 : lw_okq (⟨"KiteTrays$Asking", "leave", "(I)V"⟩, 2) := ⟨⟨by decide +kernel, by decide +kernel⟩, List.mem_of_getElem? (i := 206) (by decide +kernel), List.mem_of_getElem? (i := 775) (by decide +kernel), List.mem_of_getElem? (i := 776) (by decide +kernel)⟩
theorem lw_p26 : lw_okq (⟨"KiteTrays", "rowCount", "()I"⟩, 10) := ⟨⟨by decide +kernel, by decide +kernel⟩, List.mem_of_getElem? (i := 14) (by decide +kernel), List.mem_of_getElem? (i := 794) (by decide +kernel), List.mem_of_getElem? (i := 795) (by decide +kernel)⟩
theorem lw_p27 : lw_okq (⟨"KiteTraysModel", "finding", "(I)I"⟩, 25) := ⟨⟨by decide +kernel, by decide +kernel⟩, List.mem_of_getElem? (i := 802) (by decide +kernel), List.mem_of_getElem? (i := 898) (by decide +kernel), List.mem_of_getElem? (i := 899) (by decide +kernel)⟩
theorem lw_p28 : lw_okq (⟨"KiteTraysModel", "begin", "()V"⟩, 25) := ⟨⟨by decide +kernel, by decide +kernel⟩, List.mem_of_getElem? (i := 802) (by decide +kernel), List.mem_of_getElem? (i := 929) (by decide +kernel), List.mem_of_getElem? (i := 930) (by decide +kernel)⟩
theorem lw_p29 : lw_okq (⟨"KiteTraysModel", "nextToken", "()V"⟩, 25) := ⟨⟨by decide +kernel, by decide +kernel⟩, List.mem_of_getElem? (i := 802) (by decide +kernel), List.mem_of_getElem? (i := 933) (by decide +kernel), List.mem_of_getElem? (i := 934) (by decide +kernel)⟩
theorem lw_p30 : lw_okq (⟨"KiteTraysModel", "isLetter", "(I)Z"⟩, 25) := ⟨⟨by decide +kernel, by decide +kernel⟩, List.mem_of_getElem? (i := 802) (by decide +kernel), List.mem_of_getElem? (i := 942) (by decide +kernel), List.mem_of_getElem? (i := 943) (by decide +kernel)⟩
theorem lw_p31 : lw_okq (⟨"KiteTraysModel", "must", "(Z)V"⟩, 25) := ⟨⟨by decide +kernel, by decide +kernel⟩, List.mem_of_getElem? (i := 802) (by decide +kernel), List.mem_of_getElem? (i := 946) (by decide +kernel), List.mem_of_getElem? (i := 947) (by decide +kernel)⟩
def lw_privs_2 : List (MethodName × Nat) := [(⟨"KiteTrays$Foretelling", "highBy", "(III)I"⟩, 10), (⟨"KiteTrays$Foretelling", "draftWith", "(III)V"⟩, 10), (⟨"KiteTrays$Roof", "quarrel", "(II)Z"⟩, 7), (⟨"KiteTrays", "watchRow", "(IIII)I"⟩, 10), (⟨"KiteTrays$Foretelling", "search", "(IIII)V"⟩, 10), (⟨"KiteTrays$Foretelling", "draftIsAsSeen", "()Z"⟩, 10), (⟨"KiteTrays$Foretelling", "noteFitting", "(I)V"⟩, 10), (⟨"KiteTrays$Foretelling", "drawAct", "(I)V"⟩, 10), (⟨"KiteTrays$Asking", "give", "(ILKiteTrays$Paper;II)I"⟩, 2), (⟨"KiteTrays$Asking", "leave", "(I)V"⟩, 2), (⟨"KiteTrays", "rowCount", "()I"⟩, 10), (⟨"KiteTraysModel", "finding", "(I)I"⟩, 25), (⟨"KiteTraysModel", "begin", "()V"⟩, 25), (⟨"KiteTraysModel", "nextToken", "()V"⟩, 25), (⟨"KiteTraysModel", "isLetter", "(I)Z"⟩, 25), (⟨"KiteTraysModel", "must", "(Z)V"⟩, 25)]
theorem lw_r2 : ∀ q ∈ lw_privs_2, lw_okq q := List.forall_mem_cons.mpr ⟨lw_p16, List.forall_mem_cons.mpr ⟨lw_p17, List.forall_mem_cons.mpr ⟨lw_p18, List.forall_mem_cons.mpr ⟨lw_p19, List.forall_mem_cons.mpr ⟨lw_p20, List.forall_mem_cons.mpr ⟨lw_p21, List.forall_mem_cons.mpr ⟨lw_p22, List.forall_mem_cons.mpr ⟨lw_p23, List.forall_mem_cons.mpr ⟨lw_p24, List.forall_mem_cons.mpr ⟨lw_p25, List.forall_mem_cons.mpr ⟨lw_p26, List.forall_mem_cons.mpr ⟨lw_p27, List.forall_mem_cons.mpr ⟨lw_p28, List.forall_mem_cons.mpr ⟨lw_p29, List.forall_mem_cons.mpr ⟨lw_p30, List.forall_mem_cons.mpr ⟨lw_p31, fun _ h => absurd h List.not_mem_nil⟩⟩⟩⟩⟩⟩⟩⟩⟩⟩⟩⟩⟩⟩⟩⟩
theorem lw_p32 : lw_okq (⟨"KiteTraysModel", "bad", "(I)V"⟩, 25) := ⟨⟨by decide +kernel, by decide +kernel⟩, List.mem_of_getElem? (i := 802) (by decide +kernel), List.mem_of_getElem? (i := 950) (by decide +kernel), List.mem_of_getElem? (i := 951) (by decide +kernel)⟩
theorem lw_p33 : lw_okq (⟨"KiteTraysModel", "number", "(II)I"⟩, 25) := ⟨⟨by decide +kernel, by decide +kernel⟩, List.mem_of_getElem? (i := 802) (by decide +kernel), List.mem_of_getElem? (i := 954) (by decide +kernel), List.mem_of_getElem? (i := 955) (by decide +kernel)⟩
theorem lw_p34 : lw_okq (⟨"KiteTraysModel", "mustSign", "(I)V"⟩, 25) := ⟨⟨by decide +kernel, by decide +kernel⟩, List.mem_of_getElem? (i := 802) (by decide +kernel), List.mem_of_getElem? (i := 958) (by decide +kernel), List.mem_of_getElem? (i := 959) (by decide +kernel)⟩
theorem lw_p35 : lw_okq (⟨"KiteTraysModel", "readWind", "()V"⟩, 25) := ⟨⟨by decide +kernel, by decide +kernel⟩, List.mem_of_getElem? (i := 802) (by decide +kernel), List.mem_of_getElem? (i := 962) (by decide +kernel), List.mem_of_getElem? (i := 963) (by decide +kernel)⟩
theorem lw_p36 : lw_okq (⟨"KiteTraysModel", "isSort", "()Z"⟩, 25) := ⟨⟨by decide +kernel, by decide +kernel⟩, List.mem_of_getElem? (i := 802) (by decide +kernel), List.mem_of_getElem? (i := 966) (by decide +kernel), List.mem_of_getElem? (i := 967) (by decide +kernel)⟩
theorem lw_p37 : lw_okq (⟨"KiteTraysModel", "readPaper", "()V"⟩, 25) := ⟨⟨by decide +kernel, by decide +kernel⟩, List.mem_of_getElem? (i := 802) (by decide +kernel), List.mem_of_getElem? (i := 973) (by decide +kernel), List.mem_of_getElem? (i := 974) (by decide +kernel)⟩
theorem lw_p38 : lw_okq (⟨"KiteTraysModel", "failed", "()Z"⟩, 25) := ⟨⟨by decide +kernel, by decide +kernel⟩, List.mem_of_getElem? (i := 802) (by decide +kernel), List.mem_of_getElem? (i := 977) (by decide +kernel), List.mem_of_getElem? (i := 978) (by decide +kernel)⟩
theorem lw_p39 : lw_okq (⟨"KiteTraysModel", "isThere", "()Z"⟩, 25) := ⟨⟨by decide +kernel, by decide +kernel⟩, List.mem_of_getElem? (i := 802) (by decide +kernel), List.mem_of_getElem? (i := 986) (by decide +kernel), List.mem_of_getElem? (i := 987) (by decide +kernel)⟩
theorem lw_p40 : lw_okq (⟨"KiteTraysModel", "keep", "()V"⟩, 25) := ⟨⟨by decide +kernel, by decide +kernel⟩, List.mem_of_getElem? (i := 802) (by decide +kernel), List.mem_of_getElem? (i := 992) (by decide +kernel), List.mem_of_getElem? (i := 993) (by decide +kernel)⟩
theorem lw_p41 : lw_okq (⟨"KiteTraysModel", "hour", "([I)V"⟩, 25) := ⟨⟨by decide +kernel, by decide +kernel⟩, List.mem_of_getElem? (i := 802) (by decide +kernel), List.mem_of_getElem? (i := 996) (by decide +kernel), List.mem_of_getElem? (i := 997) (by decide +kernel)⟩
theorem lw_p42 : lw_okq (⟨"KiteTraysModel", "hourBy", "([II)V"⟩, 25) := ⟨⟨by decide +kernel, by decide +kernel⟩, List.mem_of_getElem? (i := 802) (by decide +kernel), List.mem_of_getElem? (i := 1003) (by decide +kernel), List.mem_of_getElem? (i := 1004) (by decide +kernel)⟩
theorem lw_p43 : lw_okq (⟨"KiteTraysModel", "isPaper", "(I)Z"⟩, 25) := ⟨⟨by decide +kernel, by decide +kernel⟩, List.mem_of_getElem? (i := 802) (by decide +kernel), List.mem_of_getElem? (i := 1038) (by decide +kernel), List.mem_of_getElem? (i := 1039) (by decide +kernel)⟩
theorem lw_p44 : lw_okq (⟨"KiteTraysModel", "layThen", "()V"⟩, 25) := ⟨⟨by decide +kernel, by decide +kernel⟩, List.mem_of_getElem? (i := 802) (by decide +kernel), List.mem_of_getElem? (i := 1090) (by decide +kernel), List.mem_of_getElem? (i := 1091) (by decide +kernel)⟩
theorem lw_p45 : lw_okq (⟨"KiteTraysModel", "hoursOf", "([II)V"⟩, 25) := ⟨⟨by decide +kernel, by decide +kernel⟩, List.mem_of_getElem? (i := 802) (by decide +kernel), List.mem_of_getElem? (i := 1094) (by decide +kernel), List.mem_of_getElem? (i := 1095) (by decide +kernel)⟩
theorem lw_p46 : lw_okq (⟨"KiteTraysModel", "rowFound", "(III)I"⟩, 25) := ⟨⟨by decide +kernel, by decide +kernel⟩, List.mem_of_getElem? (i := 802) (by decide +kernel), List.mem_of_getElem? (i := 1146) (by decide +kernel), List.mem_of_getElem? (i := 1147) (by decide +kernel)⟩
theorem lw_p47 : lw_okq (⟨"KiteTraysModel", "isSo", "(III)Z"⟩, 25) := ⟨⟨by decide +kernel, by decide +kernel⟩, List.mem_of_getElem? (i := 802) (by decide +kernel), List.mem_of_getElem? (i := 1150) (by decide +kernel), List.mem_of_getElem? (i := 1151) (by decide +kernel)⟩
def lw_privs_3 : List (MethodName × Nat) := [(⟨"KiteTraysModel", "bad", "(I)V"⟩, 25), (⟨"KiteTraysModel", "number", "(II)I"⟩, 25), (⟨"KiteTraysModel", "mustSign", "(I)V"⟩, 25), (⟨"KiteTraysModel", "readWind", "()V"⟩, 25), (⟨"KiteTraysModel", "isSort", "()Z"⟩, 25), (⟨"KiteTraysModel", "readPaper", "()V"⟩, 25), (⟨"KiteTraysModel", "failed", "()Z"⟩, 25), (⟨"KiteTraysModel", "isThere", "()Z"⟩, 25), (⟨"KiteTraysModel", "keep", "()V"⟩, 25), (⟨"KiteTraysModel", "hour", "([I)V"⟩, 25), (⟨"KiteTraysModel", "hourBy", "([II)V"⟩, 25), (⟨"KiteTraysModel", "isPaper", "(I)Z"⟩, 25), (⟨"KiteTraysModel", "layThen", "()V"⟩, 25), (⟨"KiteTraysModel", "hoursOf", "([II)V"⟩, 25), (⟨"KiteTraysModel", "rowFound", "(III)I"⟩, 25), (⟨"KiteTraysModel", "isSo", "(III)Z"⟩, 25)]
theorem lw_r3 : ∀ q ∈ lw_privs_3, lw_okq q := List.forall_mem_cons.mpr ⟨lw_p32, List.forall_mem_cons.mpr ⟨lw_p33, List.forall_mem_cons.mpr ⟨lw_p34, List.forall_mem_cons.mpr ⟨lw_p35, List.forall_mem_cons.mpr ⟨lw_p36, List.forall_mem_cons.mpr ⟨lw_p37, List.forall_mem_cons.mpr ⟨lw_p38, List.forall_mem_cons.mpr ⟨lw_p39, List.forall_mem_cons.mpr ⟨lw_p40, List.forall_mem_cons.mpr ⟨lw_p41, List.forall_mem_cons.mpr ⟨lw_p42, List.forall_mem_cons.mpr ⟨lw_p43, List.forall_mem_cons.mpr ⟨lw_p44, List.forall_mem_cons.mpr ⟨lw_p45, List.forall_mem_cons.mpr ⟨lw_p46, List.forall_mem_cons.mpr ⟨lw_p47, fun _ h => absurd h List.not_mem_nil⟩⟩⟩⟩⟩⟩⟩⟩⟩⟩⟩⟩⟩⟩⟩⟩
theorem lw_p48 : lw_okq (⟨"KiteTraysModel", "sizeOf", "(I)I"⟩, 25) := ⟨⟨by decide +kernel, by decide +kernel⟩, List.mem_of_getElem? (i := 802) (by decide +kernel), List.mem_of_getElem? (i := 1200) (by decide +kernel), List.mem_of_getElem? (i := 1201) (by decide +kernel)⟩
theorem lw_p49 : lw_okq (⟨"KiteTraysModel", "leafSize", "(I)I"⟩, 25) := ⟨⟨by decide +kernel, by decide +kernel⟩, List.mem_of_getElem? (i := 802) (by decide +kernel), List.mem_of_getElem? (i := 1204) (by decide +kernel), List.mem_of_getElem? (i := 1205) (by decide +kernel)⟩
theorem lw_p50 : lw_okq (⟨"KiteTraysModel", "began", "(I)V"⟩, 25) := ⟨⟨by decide +kernel, by decide +kernel⟩, List.mem_of_getElem? (i := 802) (by decide +kernel), List.mem_of_getElem? (i := 1208) (by decide +kernel), List.mem_of_getElem? (i := 1209) (by decide +kernel)⟩
theorem lw_p51 : lw_okq (⟨"KiteTraysModel", "plainSize", "(I)I"⟩, 25) := ⟨⟨by decide +kernel, by decide +kernel⟩, List.mem_of_getElem? (i := 802) (by decide +kernel), List.mem_of_getElem? (i := 1212) (by decide +kernel), List.mem_of_getElem? (i := 1213) (by decide +kernel)⟩
theorem lw_p52 : lw_okq (⟨"KiteTraysModel", "markOf", "(I)I"⟩, 25) := ⟨⟨by decide +kernel, by decide +kernel⟩, List.mem_of_getElem? (i := 802) (by decide +kernel), List.mem_of_getElem? (i := 1216) (by decide +kernel), List.mem_of_getElem? (i := 1217) (by decide +kernel)⟩
def lw_privs_4 : List (MethodName × Nat) := [(⟨"KiteTraysModel", "sizeOf", "(I)I"⟩, 25), (⟨"KiteTraysModel", "leafSize", "(I)I"⟩, 25), (⟨"KiteTraysModel", "began", "(I)V"⟩, 25), (⟨"KiteTraysModel", "plainSize", "(I)I"⟩, 25), (⟨"KiteTraysModel", "markOf", "(I)I"⟩, 25)]
theorem lw_r4 : ∀ q ∈ lw_privs_4, lw_okq q := List.forall_mem_cons.mpr ⟨lw_p48, List.forall_mem_cons.mpr ⟨lw_p49, List.forall_mem_cons.mpr ⟨lw_p50, List.forall_mem_cons.mpr ⟨lw_p51, List.forall_mem_cons.mpr ⟨lw_p52, fun _ h => absurd h List.not_mem_nil⟩⟩⟩⟩⟩
def lw_privs : List (MethodName × Nat) := lw_privs_1 ++ (lw_privs_2 ++ (lw_privs_3 ++ (lw_privs_4)))
def lw_tbl : List Cond := k2_sels lw_privs ++ tables_1
theorem lw_privs_ok : ∀ q ∈ lw_privs, lw_okq q := by
  show ∀ q ∈ lw_privs_1 ++ (lw_privs_2 ++ (lw_privs_3 ++ (lw_privs_4))), lw_okq q
  exact List.forall_mem_append.mpr ⟨lw_r1, List.forall_mem_append.mpr ⟨lw_r2, List.forall_mem_append.mpr ⟨lw_r3, lw_r4⟩⟩⟩
end
section
def RX0 : String := "KiteTrays$Acts"
def TX0 : u_T := fun k => match k with
  | 0 => ("KiteTrays$Acts", "kept", "[LKiteTrays$Roof;", true)
  | 1 => ("KiteTrays$Acts", "next", "I", false)
  | _ => ("KiteTrays$Acts", "many", "I", false)
def tyX0 : Nat → FieldType := fun k => match k with
  | 0 => .array (.object "KiteTrays$Roof")
  | 1 => .int
  | _ => .int
abbrev wsX00 : List Cond := u_ws RX0 TX0 3
theorem nmX0 : ∀ a, a < 3 → ∀ b, b < 3 → a ≠ b → (TX0 a).2.1 ≠ (TX0 b).2.1 := by decide +kernel
theorem tyX0_ok : ∀ k, k < 3 → parseFieldDescriptor (TX0 k).2.2.1 = some (tyX0 k) := by decide +kernel
abbrev cX0_init : ByteArray := prog_2_method_1_code
def yX0_init : MethodName := ⟨RX0, "<init>", "()V"⟩
abbrev cX0_keep : ByteArray := prog_2_method_2_code
def yX0_keep : MethodName := ⟨RX0, "keep", "(LKiteTrays$Roof;)V"⟩
abbrev cX0_takeBack : ByteArray := prog_2_method_3_code
def yX0_takeBack : MethodName := ⟨RX0, "takeBack", "(LKiteTrays$Roof;)V"⟩
abbrev cX0_forget : ByteArray := prog_2_method_4_code
def yX0_forget : MethodName := ⟨RX0, "forget", "()V"⟩
def RX1 : String := "KiteTrays$Asking"
def TX1 : u_T := fun k => match k with
  | 0 => ("KiteTrays$Asking", "bodies", "[I", true)
  | _ => ("KiteTrays$Asking", "many", "I", false)
def tyX1 : Nat → FieldType := fun k => match k with
  | 0 => .array .int
  | _ => .int
abbrev wsX10 : List Cond := u_ws RX1 TX1 2
theorem nmX1 : ∀ a, a < 2 → ∀ b, b < 2 → a ≠ b → (TX1 a).2.1 ≠ (TX1 b).2.1 := by decide +kernel
theorem tyX1_ok : ∀ k, k < 2 → parseFieldDescriptor (TX1 k).2.2.1 = some (tyX1 k) := by decide +kernel
abbrev cX1_init : ByteArray := prog_3_method_1_code
def yX1_init : MethodName := ⟨RX1, "<init>", "()V"⟩
abbrev cX1_traced : ByteArray := prog_3_method_2_code
def yX1_traced : MethodName := ⟨RX1, "traced", "(I)I"⟩
abbrev cX1_leave : ByteArray := prog_3_method_3_code
def yX1_leave : MethodName := ⟨RX1, "leave", "(I)V"⟩
abbrev cX1_begin : ByteArray := prog_3_method_4_code
def yX1_begin : MethodName := ⟨RX1, "begin", "(ILKiteTrays$Paper;I)I"⟩
abbrev cX1_give : ByteArray := prog_3_method_5_code
def yX1_give : MethodName := ⟨RX1, "give", "(ILKiteTrays$Paper;II)I"⟩
def RX2 : String := "KiteTrays$Foretelling"
def TX2 : u_T := fun k => match k with
  | 0 => ("KiteTrays$Foretelling", "now", "LKiteTrays$Roof;", true)
  | 1 => ("KiteTrays$Foretelling", "draft", "LKiteTrays$Roof;", true)
  | 2 => ("KiteTrays$Foretelling", "watched", "I", false)
  | 3 => ("KiteTrays$Foretelling", "seen", "LKiteTrays$Row;", false)
  | 4 => ("KiteTrays$Foretelling", "seenFrom", "I", false)
  | 5 => ("KiteTrays$Foretelling", "seenHours", "I", false)
  | 6 => ("KiteTrays$Foretelling", "fittingBits", "I", false)
  | 7 => ("KiteTrays$Foretelling", "fittingMany", "I", false)
  | 8 => ("KiteTrays$Foretelling", "fittingLeast", "I", false)
  | _ => ("KiteTrays$Foretelling", "fittingGreatest", "I", false)
def tyX2 : Nat → FieldType := fun k => match k with
  | 0 => .object "KiteTrays$Roof"
  | 1 => .object "KiteTrays$Roof"
  | 2 => .int
  | 3 => .object "KiteTrays$Row"
  | 4 => .int
  | 5 => .int
  | 6 => .int
  | 7 => .int
  | 8 => .int
  | _ => .int
abbrev wsX20 : List Cond := u_ws RX2 TX2 10
theorem nmX2 : ∀ a, a < 10 → ∀ b, b < 10 → a ≠ b → (TX2 a).2.1 ≠ (TX2 b).2.1 := by decide +kernel
theorem tyX2_ok : ∀ k, k < 10 → parseFieldDescriptor (TX2 k).2.2.1 = some (tyX2 k) := by decide +kernel
abbrev cX2_init : ByteArray := prog_4_method_1_code
def yX2_init : MethodName := ⟨RX2, "<init>", "()V"⟩
abbrev cX2_draftAhead : ByteArray := prog_4_method_2_code
def yX2_draftAhead : MethodName := ⟨RX2, "draftAhead", "(I)V"⟩
abbrev cX2_passDraft : ByteArray := prog_4_method_3_code
def yX2_passDraft : MethodName := ⟨RX2, "passDraft", "(I)V"⟩
abbrev cX2_firstHour : ByteArray := prog_4_method_4_code
def yX2_firstHour : MethodName := ⟨RX2, "firstHour", "(IZ)I"⟩
abbrev cX2_bestToSend : ByteArray := prog_4_method_5_code
def yX2_bestToSend : MethodName := ⟨RX2, "bestToSend", "(IIZ)I"⟩
abbrev cX2_bestLetting : ByteArray := prog_4_method_6_code
def yX2_bestLetting : MethodName := ⟨RX2, "bestLetting", "(III)I"⟩
abbrev cX2_highBy : ByteArray := prog_4_method_7_code
def yX2_highBy : MethodName := ⟨RX2, "highBy", "(III)I"⟩
abbrev cX2_lettingAt : ByteArray := prog_4_method_8_code
def yX2_lettingAt : MethodName := ⟨RX2, "lettingAt", "(III)I"⟩
abbrev cX2_yardsOf : ByteArray := prog_4_method_9_code
def yX2_yardsOf : MethodName := ⟨RX2, "yardsOf", "(I)I"⟩
abbrev cX2_greatestWeight : ByteArray := prog_4_method_10_code
def yX2_greatestWeight : MethodName := ⟨RX2, "greatestWeight", "(II)I"⟩
abbrev cX2_leastSnappingForce : ByteArray := prog_4_method_11_code
def yX2_leastSnappingForce : MethodName := ⟨RX2, "leastSnappingForce", "(I)I"⟩
abbrev cX2_watch : ByteArray := prog_4_method_12_code
def yX2_watch : MethodName := ⟨RX2, "watch", "(ILKiteTrays$Row;II)V"⟩
abbrev cX2_fittingPapers : ByteArray := prog_4_method_13_code
def yX2_fittingPapers : MethodName := ⟨RX2, "fittingPapers", "(I)I"⟩
abbrev cX2_fittingForces : ByteArray := prog_4_method_14_code
def yX2_fittingForces : MethodName := ⟨RX2, "fittingForces", "(I)I"⟩
abbrev cX2_fittingTapes : ByteArray := prog_4_method_15_code
def yX2_fittingTapes : MethodName := ⟨RX2, "fittingTapes", "(I)I"⟩
abbrev cX2_search : ByteArray := prog_4_method_16_code
def yX2_search : MethodName := ⟨RX2, "search", "(IIII)V"⟩
abbrev cX2_noteFitting : ByteArray := prog_4_method_17_code
def yX2_noteFitting : MethodName := ⟨RX2, "noteFitting", "(I)V"⟩
abbrev cX2_draftWith : ByteArray := prog_4_method_18_code
def yX2_draftWith : MethodName := ⟨RX2, "draftWith", "(III)V"⟩
abbrev cX2_draftIsAsSeen : ByteArray := prog_4_method_19_code
def yX2_draftIsAsSeen : MethodName := ⟨RX2, "draftIsAsSeen", "()Z"⟩
abbrev cX2_calmCases : ByteArray := prog_4_method_20_code
def yX2_calmCases : MethodName := ⟨RX2, "calmCases", "(III)J"⟩
abbrev cX2_draftYears : ByteArray := prog_4_method_21_code
def yX2_draftYears : MethodName := ⟨RX2, "draftYears", "(II)V"⟩
abbrev cX2_drawAct : ByteArray := prog_4_method_22_code
def yX2_drawAct : MethodName := ⟨RX2, "drawAct", "(I)V"⟩
def RX3 : String := "KiteTrays$Paper"
def TX3 : u_T := fun k => match k with
  | 0 => ("KiteTrays$Paper", "sort", "I", false)
  | 1 => ("KiteTrays$Paper", "belly", "I", false)
  | 2 => ("KiteTrays$Paper", "weight", "I", false)
  | 3 => ("KiteTrays$Paper", "how", "I", false)
  | 4 => ("KiteTrays$Paper", "high", "I", false)
  | 5 => ("KiteTrays$Paper", "out", "I", false)
  | _ => ("KiteTrays$Paper", "cell", "I", false)
def tyX3 : Nat → FieldType := fun k => match k with
  | 0 => .int
  | 1 => .int
  | 2 => .int
  | 3 => .int
  | 4 => .int
  | 5 => .int
  | _ => .int
abbrev wsX30 : List Cond := u_ws RX3 TX3 7
theorem nmX3 : ∀ a, a < 7 → ∀ b, b < 7 → a ≠ b → (TX3 a).2.1 ≠ (TX3 b).2.1 := by decide +kernel
theorem tyX3_ok : ∀ k, k < 7 → parseFieldDescriptor (TX3 k).2.2.1 = some (tyX3 k) := by decide +kernel
abbrev cX3_init : ByteArray := prog_5_method_1_code
def yX3_init : MethodName := ⟨RX3, "<init>", "()V"⟩
abbrev cX3_become : ByteArray := prog_5_method_2_code
def yX3_become : MethodName := ⟨RX3, "become", "(LKiteTrays$Paper;)V"⟩
abbrev cX3_isUp : ByteArray := prog_5_method_3_code
def yX3_isUp : MethodName := ⟨RX3, "isUp", "()Z"⟩
abbrev cX3_isOf : ByteArray := prog_5_method_4_code
def yX3_isOf : MethodName := ⟨RX3, "isOf", "(I)Z"⟩
abbrev cX3_kindAbove : ByteArray := prog_5_method_5_code
def yX3_kindAbove : MethodName := ⟨RX3, "kindAbove", "(I)I"⟩
abbrev cX3_sizeBody : ByteArray := prog_5_method_6_code
def yX3_sizeBody : MethodName := ⟨RX3, "sizeBody", "()I"⟩
abbrev cX3_markBody : ByteArray := prog_5_method_7_code
def yX3_markBody : MethodName := ⟨RX3, "markBody", "()I"⟩
abbrev cX3_settle : ByteArray := prog_5_method_8_code
def yX3_settle : MethodName := ⟨RX3, "settle", "(II)V"⟩
abbrev cX3_rise : ByteArray := prog_5_method_9_code
def yX3_rise : MethodName := ⟨RX3, "rise", "(I)V"⟩
abbrev cX3_letOutBy : ByteArray := prog_5_method_10_code
def yX3_letOutBy : MethodName := ⟨RX3, "letOutBy", "(I)V"⟩
abbrev cX3_liftIn : ByteArray := prog_5_method_11_code
def yX3_liftIn : MethodName := ⟨RX3, "liftIn", "(IZ)I"⟩
abbrev cX3_snapsBy : ByteArray := prog_5_method_12_code
def yX3_snapsBy : MethodName := ⟨RX3, "snapsBy", "(II)Z"⟩
abbrev cX3_moveBy : ByteArray := prog_5_method_13_code
def yX3_moveBy : MethodName := ⟨RX3, "moveBy", "(III)V"⟩
def RX4 : String := "KiteTrays$Roof"
def TX4 : u_T := fun k => match k with
  | 0 => ("KiteTrays$Roof", "standYards", "I", false)
  | 1 => ("KiteTrays$Roof", "strong", "I", false)
  | 2 => ("KiteTrays$Roof", "hour", "I", false)
  | 3 => ("KiteTrays$Roof", "windCount", "I", false)
  | 4 => ("KiteTrays$Roof", "paperCount", "I", false)
  | 5 => ("KiteTrays$Roof", "forces", "[I", true)
  | _ => ("KiteTrays$Roof", "papers", "[LKiteTrays$Paper;", true)
def tyX4 : Nat → FieldType := fun k => match k with
  | 0 => .int
  | 1 => .int
  | 2 => .int
  | 3 => .int
  | 4 => .int
  | 5 => .array .int
  | _ => .array (.object "KiteTrays$Paper")
abbrev wsX40 : List Cond := u_ws RX4 TX4 7
theorem nmX4 : ∀ a, a < 7 → ∀ b, b < 7 → a ≠ b → (TX4 a).2.1 ≠ (TX4 b).2.1 := by decide +kernel
theorem tyX4_ok : ∀ k, k < 7 → parseFieldDescriptor (TX4 k).2.2.1 = some (tyX4 k) := by decide +kernel
abbrev cX4_init : ByteArray := prog_6_method_1_code
def yX4_init : MethodName := ⟨RX4, "<init>", "()V"⟩
abbrev cX4_isRead : ByteArray := prog_6_method_2_code
def yX4_isRead : MethodName := ⟨RX4, "isRead", "()Z"⟩
abbrev cX4_hasPaper : ByteArray := prog_6_method_3_code
def yX4_hasPaper : MethodName := ⟨RX4, "hasPaper", "(I)Z"⟩
abbrev cX4_hasWind : ByteArray := prog_6_method_4_code
def yX4_hasWind : MethodName := ⟨RX4, "hasWind", "(I)Z"⟩
abbrev cX4_become : ByteArray := prog_6_method_5_code
def yX4_become : MethodName := ⟨RX4, "become", "(LKiteTrays$Roof;)V"⟩
abbrev cX4_forceAfter : ByteArray := prog_6_method_6_code
def yX4_forceAfter : MethodName := ⟨RX4, "forceAfter", "(I)I"⟩
abbrev cX4_riseOf : ByteArray := prog_6_method_7_code
def yX4_riseOf : MethodName := ⟨RX4, "riseOf", "(II)I"⟩
abbrev cX4_isPaired : ByteArray := prog_6_method_8_code
def yX4_isPaired : MethodName := ⟨RX4, "isPaired", "()Z"⟩
abbrev cX4_passHourIn : ByteArray := prog_6_method_9_code
def yX4_passHourIn : MethodName := ⟨RX4, "passHourIn", "(I)V"⟩
abbrev cX4_isPolicy : ByteArray := prog_6_method_10_code
def yX4_isPolicy : MethodName := ⟨RX4, "isPolicy", "(I)Z"⟩
abbrev cX4_policyBits : ByteArray := prog_6_method_11_code
def yX4_policyBits : MethodName := ⟨RX4, "policyBits", "()I"⟩
abbrev cX4_bitsOf : ByteArray := prog_6_method_12_code
def yX4_bitsOf : MethodName := ⟨RX4, "bitsOf", "(I)I"⟩
abbrev cX4_sendAll : ByteArray := prog_6_method_13_code
def yX4_sendAll : MethodName := ⟨RX4, "sendAll", "(II)V"⟩
abbrev cX4_quarrelCount : ByteArray := prog_6_method_14_code
def yX4_quarrelCount : MethodName := ⟨RX4, "quarrelCount", "()I"⟩
abbrev cX4_firstQuarrel : ByteArray := prog_6_method_15_code
def yX4_firstQuarrel : MethodName := ⟨RX4, "firstQuarrel", "()I"⟩
abbrev cX4_quarrel : ByteArray := prog_6_method_16_code
def yX4_quarrel : MethodName := ⟨RX4, "quarrel", "(II)Z"⟩
def RX5 : String := "KiteTrays$Row"
def TX5 : u_T := fun k => match k with
  | 0 => ("KiteTrays$Row", "lane", "I", false)
  | 1 => ("KiteTrays$Row", "size", "I", false)
  | _ => ("KiteTrays$Row", "items", "[I", true)
def tyX5 : Nat → FieldType := fun k => match k with
  | 0 => .int
  | 1 => .int
  | _ => .array .int
abbrev wsX50 : List Cond := u_ws RX5 TX5 3
theorem nmX5 : ∀ a, a < 3 → ∀ b, b < 3 → a ≠ b → (TX5 a).2.1 ≠ (TX5 b).2.1 := by decide +kernel
theorem tyX5_ok : ∀ k, k < 3 → parseFieldDescriptor (TX5 k).2.2.1 = some (tyX5 k) := by decide +kernel
abbrev cX5_init : ByteArray := prog_7_method_1_code
def yX5_init : MethodName := ⟨RX5, "<init>", "()V"⟩
abbrev cX5_isMissing : ByteArray := prog_7_method_2_code
def yX5_isMissing : MethodName := ⟨RX5, "isMissing", "()Z"⟩
abbrev cX5_begin : ByteArray := prog_7_method_3_code
def yX5_begin : MethodName := ⟨RX5, "begin", "(II)V"⟩
abbrev cX5_end : ByteArray := prog_7_method_4_code
def yX5_end : MethodName := ⟨RX5, "end", "()V"⟩
abbrev cX5_hasPlaces : ByteArray := prog_7_method_5_code
def yX5_hasPlaces : MethodName := ⟨RX5, "hasPlaces", "(II)Z"⟩
abbrev cX5_put : ByteArray := prog_7_method_6_code
def yX5_put : MethodName := ⟨RX5, "put", "(II)I"⟩
abbrev cX5_cut : ByteArray := prog_7_method_7_code
def yX5_cut : MethodName := ⟨RX5, "cut", "(I)I"⟩
def RX6 : String := "KiteTrays$Tape"
def TX6 : u_T := fun k => match k with
  | 0 => ("KiteTrays$Tape", "bytes", "[I", true)
  | 1 => ("KiteTrays$Tape", "size", "I", false)
  | 2 => ("KiteTrays$Tape", "place", "I", false)
  | _ => ("KiteTrays$Tape", "faultNumber", "I", false)
def tyX6 : Nat → FieldType := fun k => match k with
  | 0 => .array .int
  | 1 => .int
  | 2 => .int
  | _ => .int
abbrev wsX60 : List Cond := u_ws RX6 TX6 4
theorem nmX6 : ∀ a, a < 4 → ∀ b, b < 4 → a ≠ b → (TX6 a).2.1 ≠ (TX6 b).2.1 := by decide +kernel
theorem tyX6_ok : ∀ k, k < 4 → parseFieldDescriptor (TX6 k).2.2.1 = some (tyX6 k) := by decide +kernel
abbrev cX6_init : ByteArray := prog_8_method_1_code
def yX6_init : MethodName := ⟨RX6, "<init>", "()V"⟩
abbrev cX6_append : ByteArray := prog_8_method_2_code
def yX6_append : MethodName := ⟨RX6, "append", "(I)V"⟩
abbrev cX6_readInto : ByteArray := prog_8_method_3_code
def yX6_readInto : MethodName := ⟨RX6, "readInto", "(LKiteTrays$Roof;)Z"⟩
abbrev cX6_readLaw : ByteArray := prog_8_method_4_code
def yX6_readLaw : MethodName := ⟨RX6, "readLaw", "(LKiteTrays$Roof;)Z"⟩
abbrev cX6_readWinds : ByteArray := prog_8_method_5_code
def yX6_readWinds : MethodName := ⟨RX6, "readWinds", "(LKiteTrays$Roof;)Z"⟩
abbrev cX6_readPapers : ByteArray := prog_8_method_6_code
def yX6_readPapers : MethodName := ⟨RX6, "readPapers", "(LKiteTrays$Roof;)Z"⟩
abbrev cX6_readPaper : ByteArray := prog_8_method_7_code
def yX6_readPaper : MethodName := ⟨RX6, "readPaper", "(LKiteTrays$Paper;)Z"⟩
abbrev cX6_sortOf : ByteArray := prog_8_method_8_code
def yX6_sortOf : MethodName := ⟨RX6, "sortOf", "(I)I"⟩
abbrev cX6_next : ByteArray := prog_8_method_9_code
def yX6_next : MethodName := ⟨RX6, "next", "()I"⟩
abbrev cX6_byteAt : ByteArray := prog_8_method_10_code
def yX6_byteAt : MethodName := ⟨RX6, "byteAt", "(I)I"⟩
abbrev cX6_take : ByteArray := prog_8_method_11_code
def yX6_take : MethodName := ⟨RX6, "take", "(I)Z"⟩
abbrev cX6_takeEnd : ByteArray := prog_8_method_12_code
def yX6_takeEnd : MethodName := ⟨RX6, "takeEnd", "()Z"⟩
abbrev cX6_takeNumber : ByteArray := prog_8_method_13_code
def yX6_takeNumber : MethodName := ⟨RX6, "takeNumber", "(II)I"⟩
abbrev cX6_figuresHere : ByteArray := prog_8_method_14_code
def yX6_figuresHere : MethodName := ⟨RX6, "figuresHere", "()I"⟩
abbrev cX6_isFigure : ByteArray := prog_8_method_15_code
def yX6_isFigure : MethodName := ⟨RX6, "isFigure", "(I)Z"⟩
abbrev cX6_hasFault : ByteArray := prog_8_method_16_code
def yX6_hasFault : MethodName := ⟨RX6, "hasFault", "(I)Z"⟩
def RX7 : String := "KiteTrays"
def TX7 : u_T := fun k => match k with
  | 0 => ("KiteTrays", "rows", "[LKiteTrays$Row;", true)
  | 1 => ("KiteTrays", "tape", "LKiteTrays$Tape;", true)
  | 2 => ("KiteTrays", "foretelling", "LKiteTrays$Foretelling;", true)
  | 3 => ("KiteTrays", "now", "LKiteTrays$Roof;", true)
  | 4 => ("KiteTrays", "draft", "LKiteTrays$Roof;", true)
  | 5 => ("KiteTrays", "acts", "LKiteTrays$Acts;", true)
  | 6 => ("KiteTrays", "images", "[LKiteTrays$Roof;", true)
  | 7 => ("KiteTrays", "asking", "LKiteTrays$Asking;", true)
  | 8 => ("KiteTrays", "latestFault", "I", false)
  | _ => ("KiteTrays", "latestFinding", "I", false)
def tyX7 : Nat → FieldType := fun k => match k with
  | 0 => .array (.object "KiteTrays$Row")
  | 1 => .object "KiteTrays$Tape"
  | 2 => .object "KiteTrays$Foretelling"
  | 3 => .object "KiteTrays$Roof"
  | 4 => .object "KiteTrays$Roof"
  | 5 => .object "KiteTrays$Acts"
  | 6 => .array (.object "KiteTrays$Roof")
  | 7 => .object "KiteTrays$Asking"
  | 8 => .int
  | _ => .int
abbrev wsX70 : List Cond := u_ws RX7 TX7 10
theorem nmX7 : ∀ a, a < 10 → ∀ b, b < 10 → a ≠ b → (TX7 a).2.1 ≠ (TX7 b).2.1 := by decide +kernel
theorem tyX7_ok : ∀ k, k < 10 → parseFieldDescriptor (TX7 k).2.2.1 = some (tyX7 k) := by decide +kernel
abbrev cX7_init : ByteArray := prog_1_method_1_code
def yX7_init : MethodName := ⟨RX7, "<init>", "()V"⟩
abbrev cX7_row : ByteArray := prog_1_method_2_code
def yX7_row : MethodName := ⟨RX7, "row", "(III)I"⟩
abbrev cX7_set : ByteArray := prog_1_method_3_code
def yX7_set : MethodName := ⟨RX7, "set", "(III)I"⟩
abbrev cX7_copy : ByteArray := prog_1_method_4_code
def yX7_copy : MethodName := ⟨RX7, "copy", "(IIIII)I"⟩
abbrev cX7_drop : ByteArray := prog_1_method_5_code
def yX7_drop : MethodName := ⟨RX7, "drop", "(I)I"⟩
abbrev cX7_feed : ByteArray := prog_1_method_6_code
def yX7_feed : MethodName := ⟨RX7, "feed", "(I)I"⟩
abbrev cX7_roof : ByteArray := prog_1_method_7_code
def yX7_roof : MethodName := ⟨RX7, "roof", "()I"⟩
abbrev cX7_fault : ByteArray := prog_1_method_8_code
def yX7_fault : MethodName := ⟨RX7, "fault", "()I"⟩
abbrev cX7_undo : ByteArray := prog_1_method_9_code
def yX7_undo : MethodName := ⟨RX7, "undo", "()I"⟩
abbrev cX7_hours : ByteArray := prog_1_method_10_code
def yX7_hours : MethodName := ⟨RX7, "hours", "(I)I"⟩
abbrev cX7_send : ByteArray := prog_1_method_11_code
def yX7_send : MethodName := ⟨RX7, "send", "(II)I"⟩
abbrev cX7_let : ByteArray := prog_1_method_12_code
def yX7_let : MethodName := ⟨RX7, "let", "(II)I"⟩
abbrev cX7_weigh : ByteArray := prog_1_method_13_code
def yX7_weigh : MethodName := ⟨RX7, "weigh", "(II)I"⟩
abbrev cX7_blow : ByteArray := prog_1_method_14_code
def yX7_blow : MethodName := ⟨RX7, "blow", "(II)I"⟩
abbrev cX7_paper : ByteArray := prog_1_method_15_code
def yX7_paper : MethodName := ⟨RX7, "paper", "(II)I"⟩
abbrev cX7_force : ByteArray := prog_1_method_16_code
def yX7_force : MethodName := ⟨RX7, "force", "(I)I"⟩
abbrev cX7_stand : ByteArray := prog_1_method_17_code
def yX7_stand : MethodName := ⟨RX7, "stand", "(I)I"⟩
abbrev cX7_ahead : ByteArray := prog_1_method_18_code
def yX7_ahead : MethodName := ⟨RX7, "ahead", "(III)I"⟩
abbrev cX7_when : ByteArray := prog_1_method_19_code
def yX7_when : MethodName := ⟨RX7, "when", "(II)I"⟩
abbrev cX7_policy : ByteArray := prog_1_method_20_code
def yX7_policy : MethodName := ⟨RX7, "policy", "(I)I"⟩
abbrev cX7_pull : ByteArray := prog_1_method_21_code
def yX7_pull : MethodName := ⟨RX7, "pull", "(I)I"⟩
abbrev cX7_sends : ByteArray := prog_1_method_22_code
def yX7_sends : MethodName := ⟨RX7, "sends", "(III)I"⟩
abbrev cX7_lets : ByteArray := prog_1_method_23_code
def yX7_lets : MethodName := ⟨RX7, "lets", "(III)I"⟩
abbrev cX7_light : ByteArray := prog_1_method_24_code
def yX7_light : MethodName := ⟨RX7, "light", "(II)I"⟩
abbrev cX7_gust : ByteArray := prog_1_method_25_code
def yX7_gust : MethodName := ⟨RX7, "gust", "(I)I"⟩
abbrev cX7_quarrels : ByteArray := prog_1_method_26_code
def yX7_quarrels : MethodName := ⟨RX7, "quarrels", "(I)I"⟩
abbrev cX7_who : ByteArray := prog_1_method_27_code
def yX7_who : MethodName := ⟨RX7, "who", "(IIIII)I"⟩
abbrev cX7_winds : ByteArray := prog_1_method_28_code
def yX7_winds : MethodName := ⟨RX7, "winds", "(IIIII)I"⟩
abbrev cX7_tapes : ByteArray := prog_1_method_29_code
def yX7_tapes : MethodName := ⟨RX7, "tapes", "(IIIII)I"⟩
abbrev cX7_calm : ByteArray := prog_1_method_30_code
def yX7_calm : MethodName := ⟨RX7, "calm", "(IIII)J"⟩
abbrev cX7_drawn : ByteArray := prog_1_method_31_code
def yX7_drawn : MethodName := ⟨RX7, "drawn", "(III)I"⟩
abbrev cX7_image : ByteArray := prog_1_method_32_code
def yX7_image : MethodName := ⟨RX7, "image", "(I)I"⟩
abbrev cX7_restore : ByteArray := prog_1_method_33_code
def yX7_restore : MethodName := ⟨RX7, "restore", "(I)I"⟩
abbrev cX7_kind : ByteArray := prog_1_method_34_code
def yX7_kind : MethodName := ⟨RX7, "kind", "(I)I"⟩
abbrev cX7_as : ByteArray := prog_1_method_35_code
def yX7_as : MethodName := ⟨RX7, "as", "(II)I"⟩
abbrev cX7_ask : ByteArray := prog_1_method_36_code
def yX7_ask : MethodName := ⟨RX7, "ask", "(II)I"⟩
abbrev cX7_trace : ByteArray := prog_1_method_37_code
def yX7_trace : MethodName := ⟨RX7, "trace", "(I)I"⟩
abbrev cX7_count : ByteArray := prog_1_method_38_code
def yX7_count : MethodName := ⟨RX7, "count", "(I)I"⟩
abbrev cX7_status : ByteArray := prog_1_method_39_code
def yX7_status : MethodName := ⟨RX7, "status", "()I"⟩
abbrev cX7_found : ByteArray := prog_1_method_40_code
def yX7_found : MethodName := ⟨RX7, "found", "(I)I"⟩
abbrev cX7_unfound : ByteArray := prog_1_method_41_code
def yX7_unfound : MethodName := ⟨RX7, "unfound", "(I)I"⟩
abbrev cX7_watchRow : ByteArray := prog_1_method_42_code
def yX7_watchRow : MethodName := ⟨RX7, "watchRow", "(IIII)I"⟩
abbrev cX7_isRow : ByteArray := prog_1_method_43_code
def yX7_isRow : MethodName := ⟨RX7, "isRow", "(I)Z"⟩
abbrev cX7_rowCount : ByteArray := prog_1_method_44_code
def yX7_rowCount : MethodName := ⟨RX7, "rowCount", "()I"⟩
abbrev cX7_isWithin : ByteArray := prog_1_method_45_code
def yX7_isWithin : MethodName := ⟨RX7, "isWithin", "(III)Z"⟩
abbrev cX7_power : ByteArray := prog_1_method_46_code
def yX7_power : MethodName := ⟨RX7, "power", "(JI)J"⟩
abbrev cX7_greatestDivisor : ByteArray := prog_1_method_47_code
def yX7_greatestDivisor : MethodName := ⟨RX7, "greatestDivisor", "(JJ)J"⟩
def RX8 : String := "KiteTraysModel"
def TX8 : u_T := fun k => match k with
  | 0 => ("KiteTraysModel", "thrown", "I", false)
  | 1 => ("KiteTraysModel", "status", "I", false)
  | 2 => ("KiteTraysModel", "lane", "[I", true)
  | 3 => ("KiteTraysModel", "many", "[I", true)
  | 4 => ("KiteTraysModel", "item", "[I", true)
  | 5 => ("KiteTraysModel", "roof", "[I", true)
  | 6 => ("KiteTraysModel", "fresh", "[I", true)
  | 7 => ("KiteTraysModel", "then", "[I", true)
  | 8 => ("KiteTraysModel", "rises", "[I", true)
  | 9 => ("KiteTraysModel", "was", "[I", true)
  | 10 => ("KiteTraysModel", "acts", "I", false)
  | 11 => ("KiteTraysModel", "tape", "[I", true)
  | 12 => ("KiteTraysModel", "taped", "I", false)
  | 13 => ("KiteTraysModel", "cursor", "I", false)
  | 14 => ("KiteTraysModel", "start", "I", false)
  | 15 => ("KiteTraysModel", "token", "I", false)
  | 16 => ("KiteTraysModel", "value", "I", false)
  | 17 => ("KiteTraysModel", "fault", "I", false)
  | 18 => ("KiteTraysModel", "faultAt", "I", false)
  | 19 => ("KiteTraysModel", "latest", "I", false)
  | 20 => ("KiteTraysModel", "yards", "[I", true)
  | 21 => ("KiteTraysModel", "isKept", "[Z", true)
  | 22 => ("KiteTraysModel", "kept", "[I", true)
  | 23 => ("KiteTraysModel", "trace", "[I", true)
  | _ => ("KiteTraysModel", "traced", "I", false)
def tyX8 : Nat → FieldType := fun k => match k with
  | 0 => .int
  | 1 => .int
  | 2 => .array .int
  | 3 => .array .int
  | 4 => .array .int
  | 5 => .array .int
  | 6 => .array .int
  | 7 => .array .int
  | 8 => .array .int
  | 9 => .array .int
  | 10 => .int
  | 11 => .array .int
  | 12 => .int
  | 13 => .int
  | 14 => .int
  | 15 => .int
  | 16 => .int
  | 17 => .int
  | 18 => .int
  | 19 => .int
  | 20 => .array .int
  | 21 => .array .boolean
  | 22 => .array .int
  | 23 => .array .int
  | _ => .int
abbrev wsX80 : List Cond := u_ws RX8 TX8 25
theorem nmX8 : ∀ a, a < 25 → ∀ b, b < 25 → a ≠ b → (TX8 a).2.1 ≠ (TX8 b).2.1 := by decide +kernel
theorem tyX8_ok : ∀ k, k < 25 → parseFieldDescriptor (TX8 k).2.2.1 = some (tyX8 k) := by decide +kernel
abbrev cX8_init : ByteArray := prog_10_method_1_code
def yX8_init : MethodName := ⟨RX8, "<init>", "()V"⟩
abbrev cX8_in : ByteArray := prog_10_method_3_code
def yX8_in : MethodName := ⟨RX8, "in", "(JJJ)Z"⟩
abbrev cX8_finding : ByteArray := prog_10_method_4_code
def yX8_finding : MethodName := ⟨RX8, "finding", "(I)I"⟩
abbrev cX8_isRow : ByteArray := prog_10_method_5_code
def yX8_isRow : MethodName := ⟨RX8, "isRow", "(I)Z"⟩
abbrev cX8_row : ByteArray := prog_10_method_6_code
def yX8_row : MethodName := ⟨RX8, "row", "(III)I"⟩
abbrev cX8_set : ByteArray := prog_10_method_7_code
def yX8_set : MethodName := ⟨RX8, "set", "(III)I"⟩
abbrev cX8_copy : ByteArray := prog_10_method_8_code
def yX8_copy : MethodName := ⟨RX8, "copy", "(IIIII)I"⟩
abbrev cX8_drop : ByteArray := prog_10_method_9_code
def yX8_drop : MethodName := ⟨RX8, "drop", "(I)I"⟩
abbrev cX8_feed : ByteArray := prog_10_method_10_code
def yX8_feed : MethodName := ⟨RX8, "feed", "(I)I"⟩
abbrev cX8_bad : ByteArray := prog_10_method_11_code
def yX8_bad : MethodName := ⟨RX8, "bad", "(I)V"⟩
abbrev cX8_nextToken : ByteArray := prog_10_method_12_code
def yX8_nextToken : MethodName := ⟨RX8, "nextToken", "()V"⟩
abbrev cX8_must : ByteArray := prog_10_method_13_code
def yX8_must : MethodName := ⟨RX8, "must", "(Z)V"⟩
abbrev cX8_isLetter : ByteArray := prog_10_method_14_code
def yX8_isLetter : MethodName := ⟨RX8, "isLetter", "(I)Z"⟩
abbrev cX8_number : ByteArray := prog_10_method_15_code
def yX8_number : MethodName := ⟨RX8, "number", "(II)I"⟩
abbrev cX8_mustSign : ByteArray := prog_10_method_16_code
def yX8_mustSign : MethodName := ⟨RX8, "mustSign", "(I)V"⟩
abbrev cX8_begin : ByteArray := prog_10_method_17_code
def yX8_begin : MethodName := ⟨RX8, "begin", "()V"⟩
abbrev cX8_failed : ByteArray := prog_10_method_18_code
def yX8_failed : MethodName := ⟨RX8, "failed", "()Z"⟩
abbrev cX8_fault : ByteArray := prog_10_method_19_code
def yX8_fault : MethodName := ⟨RX8, "fault", "()I"⟩
abbrev cX8_kindBy : ByteArray := prog_10_method_20_code
def yX8_kindBy : MethodName := ⟨RX8, "kindBy", "(I)I"⟩
abbrev cX8_isSort : ByteArray := prog_10_method_21_code
def yX8_isSort : MethodName := ⟨RX8, "isSort", "()Z"⟩
abbrev cX8_readWind : ByteArray := prog_10_method_22_code
def yX8_readWind : MethodName := ⟨RX8, "readWind", "()V"⟩
abbrev cX8_readPaper : ByteArray := prog_10_method_23_code
def yX8_readPaper : MethodName := ⟨RX8, "readPaper", "()V"⟩
abbrev cX8_roof : ByteArray := prog_10_method_24_code
def yX8_roof : MethodName := ⟨RX8, "roof", "()I"⟩
abbrev cX8_isThere : ByteArray := prog_10_method_25_code
def yX8_isThere : MethodName := ⟨RX8, "isThere", "()Z"⟩
abbrev cX8_isPaper : ByteArray := prog_10_method_26_code
def yX8_isPaper : MethodName := ⟨RX8, "isPaper", "(I)Z"⟩
abbrev cX8_bits : ByteArray := prog_10_method_27_code
def yX8_bits : MethodName := ⟨RX8, "bits", "(I)I"⟩
abbrev cX8_has : ByteArray := prog_10_method_28_code
def yX8_has : MethodName := ⟨RX8, "has", "(II)Z"⟩
abbrev cX8_of : ByteArray := prog_10_method_29_code
def yX8_of : MethodName := ⟨RX8, "of", "([III)I"⟩
abbrev cX8_be : ByteArray := prog_10_method_30_code
def yX8_be : MethodName := ⟨RX8, "be", "([IIII)V"⟩
abbrev cX8_isUp : ByteArray := prog_10_method_31_code
def yX8_isUp : MethodName := ⟨RX8, "isUp", "([II)Z"⟩
abbrev cX8_forceOf : ByteArray := prog_10_method_32_code
def yX8_forceOf : MethodName := ⟨RX8, "forceOf", "([II)I"⟩
abbrev cX8_isOtherUp : ByteArray := prog_10_method_33_code
def yX8_isOtherUp : MethodName := ⟨RX8, "isOtherUp", "([II)Z"⟩
abbrev cX8_riseOf : ByteArray := prog_10_method_34_code
def yX8_riseOf : MethodName := ⟨RX8, "riseOf", "([III)I"⟩
abbrev cX8_doesSnap : ByteArray := prog_10_method_35_code
def yX8_doesSnap : MethodName := ⟨RX8, "doesSnap", "([III)Z"⟩
abbrev cX8_moves : ByteArray := prog_10_method_36_code
def yX8_moves : MethodName := ⟨RX8, "moves", "([IIII)V"⟩
abbrev cX8_hourBy : ByteArray := prog_10_method_37_code
def yX8_hourBy : MethodName := ⟨RX8, "hourBy", "([II)V"⟩
abbrev cX8_hour : ByteArray := prog_10_method_38_code
def yX8_hour : MethodName := ⟨RX8, "hour", "([I)V"⟩
abbrev cX8_hoursOf : ByteArray := prog_10_method_39_code
def yX8_hoursOf : MethodName := ⟨RX8, "hoursOf", "([II)V"⟩
abbrev cX8_isPolicy : ByteArray := prog_10_method_40_code
def yX8_isPolicy : MethodName := ⟨RX8, "isPolicy", "([II)Z"⟩
abbrev cX8_policies : ByteArray := prog_10_method_41_code
def yX8_policies : MethodName := ⟨RX8, "policies", "([I)I"⟩
abbrev cX8_those : ByteArray := prog_10_method_42_code
def yX8_those : MethodName := ⟨RX8, "those", "([II)I"⟩
abbrev cX8_layThen : ByteArray := prog_10_method_43_code
def yX8_layThen : MethodName := ⟨RX8, "layThen", "()V"⟩
abbrev cX8_goesUp : ByteArray := prog_10_method_44_code
def yX8_goesUp : MethodName := ⟨RX8, "goesUp", "([III)V"⟩
abbrev cX8_letsOut : ByteArray := prog_10_method_45_code
def yX8_letsOut : MethodName := ⟨RX8, "letsOut", "([III)V"⟩
abbrev cX8_keep : ByteArray := prog_10_method_46_code
def yX8_keep : MethodName := ⟨RX8, "keep", "()V"⟩
abbrev cX8_hours : ByteArray := prog_10_method_47_code
def yX8_hours : MethodName := ⟨RX8, "hours", "(I)I"⟩
abbrev cX8_send : ByteArray := prog_10_method_48_code
def yX8_send : MethodName := ⟨RX8, "send", "(II)I"⟩
abbrev cX8_let : ByteArray := prog_10_method_49_code
def yX8_let : MethodName := ⟨RX8, "let", "(II)I"⟩
abbrev cX8_weigh : ByteArray := prog_10_method_50_code
def yX8_weigh : MethodName := ⟨RX8, "weigh", "(II)I"⟩
abbrev cX8_blow : ByteArray := prog_10_method_51_code
def yX8_blow : MethodName := ⟨RX8, "blow", "(II)I"⟩
abbrev cX8_undo : ByteArray := prog_10_method_52_code
def yX8_undo : MethodName := ⟨RX8, "undo", "()I"⟩
abbrev cX8_cellOf : ByteArray := prog_10_method_53_code
def yX8_cellOf : MethodName := ⟨RX8, "cellOf", "([II)I"⟩
abbrev cX8_paper : ByteArray := prog_10_method_54_code
def yX8_paper : MethodName := ⟨RX8, "paper", "(II)I"⟩
abbrev cX8_force : ByteArray := prog_10_method_55_code
def yX8_force : MethodName := ⟨RX8, "force", "(I)I"⟩
abbrev cX8_stand : ByteArray := prog_10_method_56_code
def yX8_stand : MethodName := ⟨RX8, "stand", "(I)I"⟩
abbrev cX8_ahead : ByteArray := prog_10_method_57_code
def yX8_ahead : MethodName := ⟨RX8, "ahead", "(III)I"⟩
abbrev cX8_when : ByteArray := prog_10_method_58_code
def yX8_when : MethodName := ⟨RX8, "when", "(II)I"⟩
abbrev cX8_policy : ByteArray := prog_10_method_59_code
def yX8_policy : MethodName := ⟨RX8, "policy", "(I)I"⟩
abbrev cX8_pull : ByteArray := prog_10_method_60_code
def yX8_pull : MethodName := ⟨RX8, "pull", "(I)I"⟩
abbrev cX8_sends : ByteArray := prog_10_method_61_code
def yX8_sends : MethodName := ⟨RX8, "sends", "(III)I"⟩
abbrev cX8_lets : ByteArray := prog_10_method_62_code
def yX8_lets : MethodName := ⟨RX8, "lets", "(III)I"⟩
abbrev cX8_light : ByteArray := prog_10_method_63_code
def yX8_light : MethodName := ⟨RX8, "light", "(II)I"⟩
abbrev cX8_gust : ByteArray := prog_10_method_64_code
def yX8_gust : MethodName := ⟨RX8, "gust", "(I)I"⟩
abbrev cX8_quarrels : ByteArray := prog_10_method_65_code
def yX8_quarrels : MethodName := ⟨RX8, "quarrels", "(I)I"⟩
abbrev cX8_isSo : ByteArray := prog_10_method_66_code
def yX8_isSo : MethodName := ⟨RX8, "isSo", "(III)Z"⟩
abbrev cX8_rowFound : ByteArray := prog_10_method_67_code
def yX8_rowFound : MethodName := ⟨RX8, "rowFound", "(III)I"⟩
abbrev cX8_isMany : ByteArray := prog_10_method_68_code
def yX8_isMany : MethodName := ⟨RX8, "isMany", "(II)Z"⟩
abbrev cX8_who : ByteArray := prog_10_method_69_code
def yX8_who : MethodName := ⟨RX8, "who", "(IIIII)I"⟩
abbrev cX8_winds : ByteArray := prog_10_method_70_code
def yX8_winds : MethodName := ⟨RX8, "winds", "(IIIII)I"⟩
abbrev cX8_tapes : ByteArray := prog_10_method_71_code
def yX8_tapes : MethodName := ⟨RX8, "tapes", "(IIIII)I"⟩
abbrev cX8_calm : ByteArray := prog_10_method_72_code
def yX8_calm : MethodName := ⟨RX8, "calm", "(IIII)J"⟩
abbrev cX8_drawn : ByteArray := prog_10_method_73_code
def yX8_drawn : MethodName := ⟨RX8, "drawn", "(III)I"⟩
abbrev cX8_image : ByteArray := prog_10_method_74_code
def yX8_image : MethodName := ⟨RX8, "image", "(I)I"⟩
abbrev cX8_restore : ByteArray := prog_10_method_75_code
def yX8_restore : MethodName := ⟨RX8, "restore", "(I)I"⟩
abbrev cX8_isOf : ByteArray := prog_10_method_76_code
def yX8_isOf : MethodName := ⟨RX8, "isOf", "(II)Z"⟩
abbrev cX8_kind : ByteArray := prog_10_method_77_code
def yX8_kind : MethodName := ⟨RX8, "kind", "(I)I"⟩
abbrev cX8_as : ByteArray := prog_10_method_78_code
def yX8_as : MethodName := ⟨RX8, "as", "(II)I"⟩
abbrev cX8_began : ByteArray := prog_10_method_79_code
def yX8_began : MethodName := ⟨RX8, "began", "(I)V"⟩
abbrev cX8_plainSize : ByteArray := prog_10_method_80_code
def yX8_plainSize : MethodName := ⟨RX8, "plainSize", "(I)I"⟩
abbrev cX8_leafSize : ByteArray := prog_10_method_81_code
def yX8_leafSize : MethodName := ⟨RX8, "leafSize", "(I)I"⟩
abbrev cX8_markOf : ByteArray := prog_10_method_82_code
def yX8_markOf : MethodName := ⟨RX8, "markOf", "(I)I"⟩
abbrev cX8_sizeOf : ByteArray := prog_10_method_83_code
def yX8_sizeOf : MethodName := ⟨RX8, "sizeOf", "(I)I"⟩
abbrev cX8_ask : ByteArray := prog_10_method_84_code
def yX8_ask : MethodName := ⟨RX8, "ask", "(II)I"⟩
abbrev cX8_trace : ByteArray := prog_10_method_85_code
def yX8_trace : MethodName := ⟨RX8, "trace", "(I)I"⟩
abbrev cX8_count : ByteArray := prog_10_method_86_code
def yX8_count : MethodName := ⟨RX8, "count", "(I)I"⟩
abbrev cX8_status : ByteArray := prog_10_method_87_code
def yX8_status : MethodName := ⟨RX8, "status", "()I"⟩
def RJ6 : String := "java/lang/Integer"
def TJ6 : u_T := fun k => match k with
  | _ => ("", "", "", false)
def tyJ6 : Nat → FieldType := fun k => match k with
  | _ => .int
abbrev wsJ60 : List Cond := u_ws RJ6 TJ6 0
theorem nmJ6 : ∀ a, a < 0 → ∀ b, b < 0 → a ≠ b → (TJ6 a).2.1 ≠ (TJ6 b).2.1 := by decide +kernel
theorem tyJ6_ok : ∀ k, k < 0 → parseFieldDescriptor (TJ6 k).2.2.1 = some (tyJ6 k) := by decide +kernel
abbrev cJ6_bitCount_0f7a4 : ByteArray := prog_11_method_49_code
def yJ6_bitCount_0f7a4 : MethodName := ⟨RJ6, "bitCount", "(I)I"⟩
def RJ9 : String := "java/lang/Math"
def TJ9 : u_T := fun k => match k with
  | _ => ("", "", "", false)
def tyJ9 : Nat → FieldType := fun k => match k with
  | _ => .int
abbrev wsJ90 : List Cond := u_ws RJ9 TJ9 0
theorem nmJ9 : ∀ a, a < 0 → ∀ b, b < 0 → a ≠ b → (TJ9 a).2.1 ≠ (TJ9 b).2.1 := by decide +kernel
theorem tyJ9_ok : ∀ k, k < 0 → parseFieldDescriptor (TJ9 k).2.2.1 = some (tyJ9 k) := by decide +kernel
abbrev cJ9_max_7cf53 : ByteArray := prog_12_method_65_code
def yJ9_max_7cf53 : MethodName := ⟨RJ9, "max", "(II)I"⟩
abbrev cJ9_min_7cf53 : ByteArray := prog_12_method_69_code
def yJ9_min_7cf53 : MethodName := ⟨RJ9, "min", "(II)I"⟩
def RJ10 : String := "java/lang/System"
def TJ10 : u_T := fun k => match k with
  | _ => ("", "", "", false)
def tyJ10 : Nat → FieldType := fun k => match k with
  | _ => .int
abbrev wsJ100 : List Cond := u_ws RJ10 TJ10 0
theorem nmJ10 : ∀ a, a < 0 → ∀ b, b < 0 → a ≠ b → (TJ10 a).2.1 ≠ (TJ10 b).2.1 := by decide +kernel
theorem tyJ10_ok : ∀ k, k < 0 → parseFieldDescriptor (TJ10 k).2.2.1 = some (tyJ10 k) := by decide +kernel
def RL : String := "KiteTraysLaw"
abbrev cL_law : ByteArray := code
def yL_law : MethodName := ⟨RL, "law", "([I)Z"⟩
abbrev vwCl : List vw_C := [(RX0, TX0, 3), (RX1, TX1, 2), (RX2, TX2, 10), (RX3, TX3, 7), (RX4, TX4, 7), (RX5, TX5, 3), (RX6, TX6, 4), (RX7, TX7, 10), (RX8, TX8, 25)]
/-- the tables' words that a contract may carry over a call -/
def lwg : List Cond := lw_tbl.filter goodWord
theorem lwg_in {w : Cond} (h : w ∈ lw_tbl) (hg : goodWord w = true) : w ∈ lwg := List.mem_filter.mpr ⟨h, hg⟩
theorem lwg_of {w : Cond} (h : w ∈ lwg) : w ∈ lw_tbl := (List.mem_filter.mp h).1
theorem lwg_good {w : Cond} (h : w ∈ lwg) : (w.onTables && w.keeps) = true ∨ ∃ ty, w = .arrayClass ty := good_of_word (List.mem_filter.mp h).2
end
section
theorem dX0_init_0 : decode cX0_init 0 = .ok (.aload_n 0, 1) := by decide +kernel
theorem dX0_init_1 : decode cX0_init 1 = .ok (.invokespecial 3, 3) := by decide +kernel
theorem dX0_init_4 : decode cX0_init 4 = .ok (.aload_n 0, 1) := by decide +kernel
theorem dX0_init_5 : decode cX0_init 5 = .ok (.bipush 24, 2) := by decide +kernel
theorem dX0_init_7 : decode cX0_init 7 = .ok (.anewarray 9, 3) := by decide +kernel
theorem dX0_init_10 : decode cX0_init 10 = .ok (.putfield 11, 3) := by decide +kernel
theorem dX0_init_13 : decode cX0_init 13 = .ok (.aload_n 0, 1) := by decide +kernel
theorem dX0_init_14 : decode cX0_init 14 = .ok (.iconst 0, 1) := by decide +kernel
theorem dX0_init_15 : decode cX0_init 15 = .ok (.putfield 17, 3) := by decide +kernel
theorem dX0_init_18 : decode cX0_init 18 = .ok (.aload_n 0, 1) := by decide +kernel
theorem dX0_init_19 : decode cX0_init 19 = .ok (.iconst 0, 1) := by decide +kernel
theorem dX0_init_20 : decode cX0_init 20 = .ok (.putfield 21, 3) := by decide +kernel
theorem dX0_init_23 : decode cX0_init 23 = .ok (.iconst 0, 1) := by decide +kernel
theorem dX0_init_24 : decode cX0_init 24 = .ok (.istore_n 1, 1) := by decide +kernel
theorem dX0_init_25 : decode cX0_init 25 = .ok (.iload_n 1, 1) := by decide +kernel
theorem dX0_init_26 : decode cX0_init 26 = .ok (.bipush 24, 2) := by decide +kernel
theorem dX0_init_28 : decode cX0_init 28 = .ok (.if_icmp .ge 22, 3) := by decide +kernel
theorem dX0_init_31 : decode cX0_init 31 = .ok (.aload_n 0, 1) := by decide +kernel
theorem dX0_init_32 : decode cX0_init 32 = .ok (.getfield 11, 3) := by decide +kernel
theorem dX0_init_35 : decode cX0_init 35 = .ok (.iload_n 1, 1) := by decide +kernel
theorem dX0_init_36 : decode cX0_init 36 = .ok (.new 9, 3) := by decide +kernel
theorem dX0_init_39 : decode cX0_init 39 = .ok (.dup, 1) := by decide +kernel
theorem dX0_init_40 : decode cX0_init 40 = .ok (.invokespecial 24, 3) := by decide +kernel
theorem dX0_init_43 : decode cX0_init 43 = .ok (.aastore, 1) := by decide +kernel
theorem dX0_init_44 : decode cX0_init 44 = .ok (.iinc 1 1, 3) := by decide +kernel
theorem dX0_init_47 : decode cX0_init 47 = .ok (.goto (-22), 3) := by decide +kernel
theorem dX0_init_50 : decode cX0_init 50 = .ok (.return_, 1) := by decide +kernel
theorem dX0_keep_0 : decode cX0_keep 0 = .ok (.aload_n 0, 1) := by decide +kernel
theorem dX0_keep_1 : decode cX0_keep 1 = .ok (.getfield 11, 3) := by decide +kernel
theorem dX0_keep_4 : decode cX0_keep 4 = .ok (.aload_n 0, 1) := by decide +kernel
theorem dX0_keep_5 : decode cX0_keep 5 = .ok (.getfield 17, 3) := by decide +kernel
theorem dX0_keep_8 : decode cX0_keep 8 = .ok (.aaload, 1) := by decide +kernel
theorem dX0_keep_9 : decode cX0_keep 9 = .ok (.aload_n 1, 1) := by decide +kernel
theorem dX0_keep_10 : decode cX0_keep 10 = .ok (.invokevirtual 25, 3) := by decide +kernel
theorem dX0_keep_13 : decode cX0_keep 13 = .ok (.aload_n 0, 1) := by decide +kernel
theorem dX0_keep_14 : decode cX0_keep 14 = .ok (.aload_n 0, 1) := by decide +kernel
theorem dX0_keep_15 : decode cX0_keep 15 = .ok (.getfield 17, 3) := by decide +kernel
theorem dX0_keep_18 : decode cX0_keep 18 = .ok (.iconst 1, 1) := by decide +kernel
theorem dX0_keep_19 : decode cX0_keep 19 = .ok (.iadd, 1) := by decide +kernel
theorem dX0_keep_20 : decode cX0_keep 20 = .ok (.bipush 24, 2) := by decide +kernel
theorem dX0_keep_22 : decode cX0_keep 22 = .ok (.irem, 1) := by decide +kernel
theorem dX0_keep_23 : decode cX0_keep 23 = .ok (.putfield 17, 3) := by decide +kernel
theorem dX0_keep_26 : decode cX0_keep 26 = .ok (.aload_n 0, 1) := by decide +kernel
theorem dX0_keep_27 : decode cX0_keep 27 = .ok (.aload_n 0, 1) := by decide +kernel
theorem dX0_keep_28 : decode cX0_keep 28 = .ok (.getfield 21, 3) := by decide +kernel
theorem dX0_keep_31 : decode cX0_keep 31 = .ok (.iconst 1, 1) := by decide +kernel
theorem dX0_keep_32 : decode cX0_keep 32 = .ok (.iadd, 1) := by decide +kernel
theorem dX0_keep_33 : decode cX0_keep 33 = .ok (.bipush 24, 2) := by decide +kernel
theorem dX0_keep_35 : decode cX0_keep 35 = .ok (.invokestatic 29, 3) := by decide +kernel
theorem dX0_keep_38 : decode cX0_keep 38 = .ok (.putfield 21, 3) := by decide +kernel
theorem dX0_keep_41 : decode cX0_keep 41 = .ok (.return_, 1) := by decide +kernel
theorem dX0_takeBack_0 : decode cX0_takeBack 0 = .ok (.aload_n 0, 1) := by decide +kernel
theorem dX0_takeBack_1 : decode cX0_takeBack 1 = .ok (.aload_n 0, 1) := by decide +kernel
theorem dX0_takeBack_2 : decode cX0_takeBack 2 = .ok (.getfield 17, 3) := by decide +kernel
theorem dX0_takeBack_5 : decode cX0_takeBack 5 = .ok (.bipush 24, 2) := by decide +kernel
theorem dX0_takeBack_7 : decode cX0_takeBack 7 = .ok (.iadd, 1) := by decide +kernel
theorem dX0_takeBack_8 : decode cX0_takeBack 8 = .ok (.iconst 1, 1) := by decide +kernel
theorem dX0_takeBack_9 : decode cX0_takeBack 9 = .ok (.isub, 1) := by decide +kernel
theorem dX0_takeBack_10 : decode cX0_takeBack 10 = .ok (.bipush 24, 2) := by decide +kernel
theorem dX0_takeBack_12 : decode cX0_takeBack 12 = .ok (.irem, 1) := by decide +kernel
theorem dX0_takeBack_13 : decode cX0_takeBack 13 = .ok (.putfield 17, 3) := by decide +kernel
theorem dX0_takeBack_16 : decode cX0_takeBack 16 = .ok (.aload_n 0, 1) := by decide +kernel
theorem dX0_takeBack_17 : decode cX0_takeBack 17 = .ok (.aload_n 0, 1) := by decide +kernel
theorem dX0_takeBack_18 : decode cX0_takeBack 18 = .ok (.getfield 21, 3) := by decide +kernel
theorem dX0_takeBack_21 : decode cX0_takeBack 21 = .ok (.iconst 1, 1) := by decide +kernel
theorem dX0_takeBack_22 : decode cX0_takeBack 22 = .ok (.isub, 1) := by decide +kernel
theorem dX0_takeBack_23 : decode cX0_takeBack 23 = .ok (.iconst 0, 1) := by decide +kernel
theorem dX0_takeBack_24 : decode cX0_takeBack 24 = .ok (.invokestatic 35, 3) := by decide +kernel
theorem dX0_takeBack_27 : decode cX0_takeBack 27 = .ok (.putfield 21, 3) := by decide +kernel
theorem dX0_takeBack_30 : decode cX0_takeBack 30 = .ok (.aload_n 1, 1) := by decide +kernel
theorem dX0_takeBack_31 : decode cX0_takeBack 31 = .ok (.aload_n 0, 1) := by decide +kernel
theorem dX0_takeBack_32 : decode cX0_takeBack 32 = .ok (.getfield 11, 3) := by decide +kernel
theorem dX0_takeBack_35 : decode cX0_takeBack 35 = .ok (.aload_n 0, 1) := by decide +kernel
theorem dX0_takeBack_36 : decode cX0_takeBack 36 = .ok (.getfield 17, 3) := by decide +kernel
theorem dX0_takeBack_39 : decode cX0_takeBack 39 = .ok (.aaload, 1) := by decide +kernel
theorem dX0_takeBack_40 : decode cX0_takeBack 40 = .ok (.invokevirtual 25, 3) := by decide +kernel
theorem dX0_takeBack_43 : decode cX0_takeBack 43 = .ok (.return_, 1) := by decide +kernel
theorem dX0_forget_0 : decode cX0_forget 0 = .ok (.aload_n 0, 1) := by decide +kernel
theorem dX0_forget_1 : decode cX0_forget 1 = .ok (.iconst 0, 1) := by decide +kernel
theorem dX0_forget_2 : decode cX0_forget 2 = .ok (.putfield 21, 3) := by decide +kernel
theorem dX0_forget_5 : decode cX0_forget 5 = .ok (.return_, 1) := by decide +kernel
theorem dX1_init_0 : decode cX1_init 0 = .ok (.aload_n 0, 1) := by decide +kernel
theorem dX1_init_1 : decode cX1_init 1 = .ok (.invokespecial 3, 3) := by decide +kernel
theorem dX1_init_4 : decode cX1_init 4 = .ok (.aload_n 0, 1) := by decide +kernel
theorem dX1_init_5 : decode cX1_init 5 = .ok (.bipush 16, 2) := by decide +kernel
theorem dX1_init_7 : decode cX1_init 7 = .ok (.newarray .int, 2) := by decide +kernel
theorem dX1_init_9 : decode cX1_init 9 = .ok (.putfield 9, 3) := by decide +kernel
theorem dX1_init_12 : decode cX1_init 12 = .ok (.aload_n 0, 1) := by decide +kernel
theorem dX1_init_13 : decode cX1_init 13 = .ok (.iconst 0, 1) := by decide +kernel
theorem dX1_init_14 : decode cX1_init 14 = .ok (.putfield 15, 3) := by decide +kernel
theorem dX1_init_17 : decode cX1_init 17 = .ok (.return_, 1) := by decide +kernel
theorem dX1_traced_0 : decode cX1_traced 0 = .ok (.iload_n 1, 1) := by decide +kernel
theorem dX1_traced_1 : decode cX1_traced 1 = .ok (.ifCond .lt 26, 3) := by decide +kernel
theorem dX1_traced_4 : decode cX1_traced 4 = .ok (.iload_n 1, 1) := by decide +kernel
theorem dX1_traced_5 : decode cX1_traced 5 = .ok (.aload_n 0, 1) := by decide +kernel
theorem dX1_traced_6 : decode cX1_traced 6 = .ok (.getfield 15, 3) := by decide +kernel
theorem dX1_traced_9 : decode cX1_traced 9 = .ok (.if_icmp .ge 18, 3) := by decide +kernel
theorem dX1_traced_12 : decode cX1_traced 12 = .ok (.iload_n 1, 1) := by decide +kernel
theorem dX1_traced_13 : decode cX1_traced 13 = .ok (.bipush 16, 2) := by decide +kernel
theorem dX1_traced_15 : decode cX1_traced 15 = .ok (.if_icmp .ge 12, 3) := by decide +kernel
theorem dX1_traced_18 : decode cX1_traced 18 = .ok (.aload_n 0, 1) := by decide +kernel
theorem dX1_traced_19 : decode cX1_traced 19 = .ok (.getfield 9, 3) := by decide +kernel
theorem dX1_traced_22 : decode cX1_traced 22 = .ok (.iload_n 1, 1) := by decide +kernel
theorem dX1_traced_23 : decode cX1_traced 23 = .ok (.iaload, 1) := by decide +kernel
theorem dX1_traced_24 : decode cX1_traced 24 = .ok (.goto 5, 3) := by decide +kernel
theorem dX1_traced_27 : decode cX1_traced 27 = .ok (.ldc 19, 2) := by decide +kernel
theorem dX1_traced_29 : decode cX1_traced 29 = .ok (.ireturn, 1) := by decide +kernel
theorem dX1_leave_0 : decode cX1_leave 0 = .ok (.aload_n 0, 1) := by decide +kernel
theorem dX1_leave_1 : decode cX1_leave 1 = .ok (.getfield 15, 3) := by decide +kernel
theorem dX1_leave_4 : decode cX1_leave 4 = .ok (.bipush 16, 2) := by decide +kernel
theorem dX1_leave_6 : decode cX1_leave 6 = .ok (.if_icmp .ge 23, 3) := by decide +kernel
theorem dX1_leave_9 : decode cX1_leave 9 = .ok (.aload_n 0, 1) := by decide +kernel
theorem dX1_leave_10 : decode cX1_leave 10 = .ok (.getfield 9, 3) := by decide +kernel
theorem dX1_leave_13 : decode cX1_leave 13 = .ok (.aload_n 0, 1) := by decide +kernel
theorem dX1_leave_14 : decode cX1_leave 14 = .ok (.getfield 15, 3) := by decide +kernel
theorem dX1_leave_17 : decode cX1_leave 17 = .ok (.iload_n 1, 1) := by decide +kernel
theorem dX1_leave_18 : decode cX1_leave 18 = .ok (.iastore, 1) := by decide +kernel
theorem dX1_leave_19 : decode cX1_leave 19 = .ok (.aload_n 0, 1) := by decide +kernel
theorem dX1_leave_20 : decode cX1_leave 20 = .ok (.dup, 1) := by decide +kernel
theorem dX1_leave_21 : decode cX1_leave 21 = .ok (.getfield 15, 3) := by decide +kernel
theorem dX1_leave_24 : decode cX1_leave 24 = .ok (.iconst 1, 1) := by decide +kernel
theorem dX1_leave_25 : decode cX1_leave 25 = .ok (.iadd, 1) := by decide +kernel
theorem dX1_leave_26 : decode cX1_leave 26 = .ok (.putfield 15, 3) := by decide +kernel
theorem dX1_leave_29 : decode cX1_leave 29 = .ok (.return_, 1) := by decide +kernel
theorem dX1_begin_0 : decode cX1_begin 0 = .ok (.aload_n 0, 1) := by decide +kernel
theorem dX1_begin_1 : decode cX1_begin 1 = .ok (.iconst 0, 1) := by decide +kernel
theorem dX1_begin_2 : decode cX1_begin 2 = .ok (.putfield 15, 3) := by decide +kernel
theorem dX1_begin_5 : decode cX1_begin 5 = .ok (.aload_n 0, 1) := by decide +kernel
theorem dX1_begin_6 : decode cX1_begin 6 = .ok (.iload_n 1, 1) := by decide +kernel
theorem dX1_begin_7 : decode cX1_begin 7 = .ok (.aload_n 2, 1) := by decide +kernel
theorem dX1_begin_8 : decode cX1_begin 8 = .ok (.iload_n 3, 1) := by decide +kernel
theorem dX1_begin_9 : decode cX1_begin 9 = .ok (.iconst 0, 1) := by decide +kernel
theorem dX1_begin_10 : decode cX1_begin 10 = .ok (.invokevirtual 20, 3) := by decide +kernel
theorem dX1_begin_13 : decode cX1_begin 13 = .ok (.ireturn, 1) := by decide +kernel
theorem dX1_give_0 : decode cX1_give 0 = .ok (.iload 4, 2) := by decide +kernel
theorem dX1_give_2 : decode cX1_give 2 = .ok (.bipush 8, 2) := by decide +kernel
theorem dX1_give_4 : decode cX1_give 4 = .ok (.if_icmp .le 5, 3) := by decide +kernel
theorem dX1_give_7 : decode cX1_give 7 = .ok (.iconst 0, 1) := by decide +kernel
theorem dX1_give_8 : decode cX1_give 8 = .ok (.ireturn, 1) := by decide +kernel
theorem dX1_give_9 : decode cX1_give 9 = .ok (.aload_n 0, 1) := by decide +kernel
theorem dX1_give_10 : decode cX1_give 10 = .ok (.iload_n 1, 1) := by decide +kernel
theorem dX1_give_11 : decode cX1_give 11 = .ok (.invokevirtual 24, 3) := by decide +kernel
theorem dX1_give_14 : decode cX1_give 14 = .ok (.iload 4, 2) := by decide +kernel
theorem dX1_give_16 : decode cX1_give 16 = .ok (.iconst 1, 1) := by decide +kernel
theorem dX1_give_17 : decode cX1_give 17 = .ok (.iadd, 1) := by decide +kernel
theorem dX1_give_18 : decode cX1_give 18 = .ok (.istore 5, 2) := by decide +kernel
theorem dX1_give_20 : decode cX1_give 20 = .ok (.iload_n 1, 1) := by decide +kernel
theorem dX1_give_21 : decode cX1_give 21 = .ok (.tableswitch 213 10 24 #[75, 80, 104, 116, 130, 213, 213, 213, 213, 213, 143, 145, 161, 176, 200], 75) := by decide +kernel
theorem dX1_give_96 : decode cX1_give 96 = .ok (.aload_n 2, 1) := by decide +kernel
theorem dX1_give_97 : decode cX1_give 97 = .ok (.getfield 28, 3) := by decide +kernel
theorem dX1_give_100 : decode cX1_give 100 = .ok (.ireturn, 1) := by decide +kernel
theorem dX1_give_101 : decode cX1_give 101 = .ok (.aload_n 0, 1) := by decide +kernel
theorem dX1_give_102 : decode cX1_give 102 = .ok (.bipush 10, 2) := by decide +kernel
theorem dX1_give_104 : decode cX1_give 104 = .ok (.aload_n 2, 1) := by decide +kernel
theorem dX1_give_105 : decode cX1_give 105 = .ok (.iload_n 3, 1) := by decide +kernel
theorem dX1_give_106 : decode cX1_give 106 = .ok (.iload 5, 2) := by decide +kernel
theorem dX1_give_108 : decode cX1_give 108 = .ok (.invokevirtual 20, 3) := by decide +kernel
theorem dX1_give_111 : decode cX1_give 111 = .ok (.aload_n 0, 1) := by decide +kernel
theorem dX1_give_112 : decode cX1_give 112 = .ok (.aload_n 2, 1) := by decide +kernel
theorem dX1_give_113 : decode cX1_give 113 = .ok (.invokevirtual 33, 3) := by decide +kernel
theorem dX1_give_116 : decode cX1_give 116 = .ok (.aload_n 2, 1) := by decide +kernel
theorem dX1_give_117 : decode cX1_give 117 = .ok (.iload_n 3, 1) := by decide +kernel
theorem dX1_give_118 : decode cX1_give 118 = .ok (.iload 5, 2) := by decide +kernel
theorem dX1_give_120 : decode cX1_give 120 = .ok (.invokevirtual 20, 3) := by decide +kernel
theorem dX1_give_123 : decode cX1_give 123 = .ok (.iadd, 1) := by decide +kernel
theorem dX1_give_124 : decode cX1_give 124 = .ok (.ireturn, 1) := by decide +kernel
theorem dX1_give_125 : decode cX1_give 125 = .ok (.aload_n 0, 1) := by decide +kernel
theorem dX1_give_126 : decode cX1_give 126 = .ok (.bipush 11, 2) := by decide +kernel
theorem dX1_give_128 : decode cX1_give 128 = .ok (.aload_n 2, 1) := by decide +kernel
theorem dX1_give_129 : decode cX1_give 129 = .ok (.iload_n 3, 1) := by decide +kernel
theorem dX1_give_130 : decode cX1_give 130 = .ok (.iload 5, 2) := by decide +kernel
theorem dX1_give_132 : decode cX1_give 132 = .ok (.invokevirtual 20, 3) := by decide +kernel
theorem dX1_give_135 : decode cX1_give 135 = .ok (.ineg, 1) := by decide +kernel
theorem dX1_give_136 : decode cX1_give 136 = .ok (.ireturn, 1) := by decide +kernel
theorem dX1_give_137 : decode cX1_give 137 = .ok (.aload_n 0, 1) := by decide +kernel
theorem dX1_give_138 : decode cX1_give 138 = .ok (.bipush 10, 2) := by decide +kernel
theorem dX1_give_140 : decode cX1_give 140 = .ok (.aload_n 2, 1) := by decide +kernel
theorem dX1_give_141 : decode cX1_give 141 = .ok (.iload_n 3, 1) := by decide +kernel
theorem dX1_give_142 : decode cX1_give 142 = .ok (.iload 5, 2) := by decide +kernel
theorem dX1_give_144 : decode cX1_give 144 = .ok (.invokevirtual 20, 3) := by decide +kernel
theorem dX1_give_147 : decode cX1_give 147 = .ok (.bipush 100, 2) := by decide +kernel
theorem dX1_give_149 : decode cX1_give 149 = .ok (.isub, 1) := by decide +kernel
theorem dX1_give_150 : decode cX1_give 150 = .ok (.ireturn, 1) := by decide +kernel
theorem dX1_give_151 : decode cX1_give 151 = .ok (.iconst 2, 1) := by decide +kernel
theorem dX1_give_152 : decode cX1_give 152 = .ok (.aload_n 0, 1) := by decide +kernel
theorem dX1_give_153 : decode cX1_give 153 = .ok (.bipush 13, 2) := by decide +kernel
theorem dX1_give_155 : decode cX1_give 155 = .ok (.aload_n 2, 1) := by decide +kernel
theorem dX1_give_156 : decode cX1_give 156 = .ok (.iload_n 3, 1) := by decide +kernel
theorem dX1_give_157 : decode cX1_give 157 = .ok (.iload 5, 2) := by decide +kernel
theorem dX1_give_159 : decode cX1_give 159 = .ok (.invokevirtual 20, 3) := by decide +kernel
theorem dX1_give_162 : decode cX1_give 162 = .ok (.imul, 1) := by decide +kernel
theorem dX1_give_163 : decode cX1_give 163 = .ok (.ireturn, 1) := by decide +kernel
theorem dX1_give_164 : decode cX1_give 164 = .ok (.iload_n 3, 1) := by decide +kernel
theorem dX1_give_165 : decode cX1_give 165 = .ok (.ireturn, 1) := by decide +kernel
theorem dX1_give_166 : decode cX1_give 166 = .ok (.aload_n 0, 1) := by decide +kernel
theorem dX1_give_167 : decode cX1_give 167 = .ok (.bipush 20, 2) := by decide +kernel
theorem dX1_give_169 : decode cX1_give 169 = .ok (.aload_n 2, 1) := by decide +kernel
theorem dX1_give_170 : decode cX1_give 170 = .ok (.iload_n 3, 1) := by decide +kernel
theorem dX1_give_171 : decode cX1_give 171 = .ok (.iload 5, 2) := by decide +kernel
theorem dX1_give_173 : decode cX1_give 173 = .ok (.invokevirtual 20, 3) := by decide +kernel
theorem dX1_give_176 : decode cX1_give 176 = .ok (.aload_n 2, 1) := by decide +kernel
theorem dX1_give_177 : decode cX1_give 177 = .ok (.getfield 37, 3) := by decide +kernel
theorem dX1_give_180 : decode cX1_give 180 = .ok (.iadd, 1) := by decide +kernel
theorem dX1_give_181 : decode cX1_give 181 = .ok (.ireturn, 1) := by decide +kernel
theorem dX1_give_182 : decode cX1_give 182 = .ok (.aload_n 0, 1) := by decide +kernel
theorem dX1_give_183 : decode cX1_give 183 = .ok (.bipush 21, 2) := by decide +kernel
theorem dX1_give_185 : decode cX1_give 185 = .ok (.aload_n 2, 1) := by decide +kernel
theorem dX1_give_186 : decode cX1_give 186 = .ok (.iload_n 3, 1) := by decide +kernel
theorem dX1_give_187 : decode cX1_give 187 = .ok (.iload 5, 2) := by decide +kernel
theorem dX1_give_189 : decode cX1_give 189 = .ok (.invokevirtual 20, 3) := by decide +kernel
theorem dX1_give_192 : decode cX1_give 192 = .ok (.sipush 1000, 3) := by decide +kernel
theorem dX1_give_195 : decode cX1_give 195 = .ok (.isub, 1) := by decide +kernel
theorem dX1_give_196 : decode cX1_give 196 = .ok (.ireturn, 1) := by decide +kernel
theorem dX1_give_197 : decode cX1_give 197 = .ok (.aload_n 0, 1) := by decide +kernel
theorem dX1_give_198 : decode cX1_give 198 = .ok (.bipush 20, 2) := by decide +kernel
theorem dX1_give_200 : decode cX1_give 200 = .ok (.aload_n 2, 1) := by decide +kernel
theorem dX1_give_201 : decode cX1_give 201 = .ok (.iload_n 3, 1) := by decide +kernel
theorem dX1_give_202 : decode cX1_give 202 = .ok (.iload 5, 2) := by decide +kernel
theorem dX1_give_204 : decode cX1_give 204 = .ok (.invokevirtual 20, 3) := by decide +kernel
theorem dX1_give_207 : decode cX1_give 207 = .ok (.aload_n 0, 1) := by decide +kernel
theorem dX1_give_208 : decode cX1_give 208 = .ok (.aload_n 2, 1) := by decide +kernel
theorem dX1_give_209 : decode cX1_give 209 = .ok (.invokevirtual 40, 3) := by decide +kernel
theorem dX1_give_212 : decode cX1_give 212 = .ok (.aload_n 2, 1) := by decide +kernel
theorem dX1_give_213 : decode cX1_give 213 = .ok (.iload_n 3, 1) := by decide +kernel
theorem dX1_give_214 : decode cX1_give 214 = .ok (.iload 5, 2) := by decide +kernel
theorem dX1_give_216 : decode cX1_give 216 = .ok (.invokevirtual 20, 3) := by decide +kernel
theorem dX1_give_219 : decode cX1_give 219 = .ok (.isub, 1) := by decide +kernel
theorem dX1_give_220 : decode cX1_give 220 = .ok (.ireturn, 1) := by decide +kernel
theorem dX1_give_221 : decode cX1_give 221 = .ok (.iconst 2, 1) := by decide +kernel
theorem dX1_give_222 : decode cX1_give 222 = .ok (.aload_n 0, 1) := by decide +kernel
theorem dX1_give_223 : decode cX1_give 223 = .ok (.bipush 21, 2) := by decide +kernel
theorem dX1_give_225 : decode cX1_give 225 = .ok (.aload_n 2, 1) := by decide +kernel
theorem dX1_give_226 : decode cX1_give 226 = .ok (.iload_n 3, 1) := by decide +kernel
theorem dX1_give_227 : decode cX1_give 227 = .ok (.iload 5, 2) := by decide +kernel
theorem dX1_give_229 : decode cX1_give 229 = .ok (.invokevirtual 20, 3) := by decide +kernel
theorem dX1_give_232 : decode cX1_give 232 = .ok (.imul, 1) := by decide +kernel
theorem dX1_give_233 : decode cX1_give 233 = .ok (.ireturn, 1) := by decide +kernel
theorem dX1_give_234 : decode cX1_give 234 = .ok (.iconst 0, 1) := by decide +kernel
theorem dX1_give_235 : decode cX1_give 235 = .ok (.ireturn, 1) := by decide +kernel
theorem dX2_init_0 : decode cX2_init 0 = .ok (.aload_n 0, 1) := by decide +kernel
theorem dX2_init_1 : decode cX2_init 1 = .ok (.invokespecial 3, 3) := by decide +kernel
theorem dX2_init_4 : decode cX2_init 4 = .ok (.aload_n 0, 1) := by decide +kernel
theorem dX2_init_5 : decode cX2_init 5 = .ok (.new 9, 3) := by decide +kernel
theorem dX2_init_8 : decode cX2_init 8 = .ok (.dup, 1) := by decide +kernel
theorem dX2_init_9 : decode cX2_init 9 = .ok (.invokespecial 11, 3) := by decide +kernel
theorem dX2_init_12 : decode cX2_init 12 = .ok (.putfield 12, 3) := by decide +kernel
theorem dX2_init_15 : decode cX2_init 15 = .ok (.aload_n 0, 1) := by decide +kernel
theorem dX2_init_16 : decode cX2_init 16 = .ok (.new 9, 3) := by decide +kernel
theorem dX2_init_19 : decode cX2_init 19 = .ok (.dup, 1) := by decide +kernel
theorem dX2_init_20 : decode cX2_init 20 = .ok (.invokespecial 11, 3) := by decide +kernel
theorem dX2_init_23 : decode cX2_init 23 = .ok (.putfield 18, 3) := by decide +kernel
theorem dX2_init_26 : decode cX2_init 26 = .ok (.aload_n 0, 1) := by decide +kernel
theorem dX2_init_27 : decode cX2_init 27 = .ok (.iconst 0, 1) := by decide +kernel
theorem dX2_init_28 : decode cX2_init 28 = .ok (.putfield 21, 3) := by decide +kernel
theorem dX2_init_31 : decode cX2_init 31 = .ok (.aload_n 0, 1) := by decide +kernel
theorem dX2_init_32 : decode cX2_init 32 = .ok (.aconst_null, 1) := by decide +kernel
theorem dX2_init_33 : decode cX2_init 33 = .ok (.putfield 25, 3) := by decide +kernel
theorem dX2_init_36 : decode cX2_init 36 = .ok (.aload_n 0, 1) := by decide +kernel
theorem dX2_init_37 : decode cX2_init 37 = .ok (.iconst 0, 1) := by decide +kernel
theorem dX2_init_38 : decode cX2_init 38 = .ok (.putfield 29, 3) := by decide +kernel
theorem dX2_init_41 : decode cX2_init 41 = .ok (.aload_n 0, 1) := by decide +kernel
theorem dX2_init_42 : decode cX2_init 42 = .ok (.iconst 0, 1) := by decide +kernel
theorem dX2_init_43 : decode cX2_init 43 = .ok (.putfield 32, 3) := by decide +kernel
theorem dX2_init_46 : decode cX2_init 46 = .ok (.aload_n 0, 1) := by decide +kernel
theorem dX2_init_47 : decode cX2_init 47 = .ok (.iconst 0, 1) := by decide +kernel
theorem dX2_init_48 : decode cX2_init 48 = .ok (.putfield 35, 3) := by decide +kernel
theorem dX2_init_51 : decode cX2_init 51 = .ok (.aload_n 0, 1) := by decide +kernel
theorem dX2_init_52 : decode cX2_init 52 = .ok (.iconst 0, 1) := by decide +kernel
theorem dX2_init_53 : decode cX2_init 53 = .ok (.putfield 38, 3) := by decide +kernel
theorem dX2_init_56 : decode cX2_init 56 = .ok (.aload_n 0, 1) := by decide +kernel
theorem dX2_init_57 : decode cX2_init 57 = .ok (.ldc 41, 2) := by decide +kernel
theorem dX2_init_59 : decode cX2_init 59 = .ok (.putfield 42, 3) := by decide +kernel
theorem dX2_init_62 : decode cX2_init 62 = .ok (.aload_n 0, 1) := by decide +kernel
theorem dX2_init_63 : decode cX2_init 63 = .ok (.ldc 41, 2) := by decide +kernel
theorem dX2_init_65 : decode cX2_init 65 = .ok (.putfield 45, 3) := by decide +kernel
theorem dX2_init_68 : decode cX2_init 68 = .ok (.return_, 1) := by decide +kernel
theorem dX2_draftAhead_0 : decode cX2_draftAhead 0 = .ok (.aload_n 0, 1) := by decide +kernel
theorem dX2_draftAhead_1 : decode cX2_draftAhead 1 = .ok (.getfield 18, 3) := by decide +kernel
theorem dX2_draftAhead_4 : decode cX2_draftAhead 4 = .ok (.aload_n 0, 1) := by decide +kernel
theorem dX2_draftAhead_5 : decode cX2_draftAhead 5 = .ok (.getfield 12, 3) := by decide +kernel
theorem dX2_draftAhead_8 : decode cX2_draftAhead 8 = .ok (.invokevirtual 48, 3) := by decide +kernel
theorem dX2_draftAhead_11 : decode cX2_draftAhead 11 = .ok (.aload_n 0, 1) := by decide +kernel
theorem dX2_draftAhead_12 : decode cX2_draftAhead 12 = .ok (.iload_n 1, 1) := by decide +kernel
theorem dX2_draftAhead_13 : decode cX2_draftAhead 13 = .ok (.invokevirtual 52, 3) := by decide +kernel
theorem dX2_draftAhead_16 : decode cX2_draftAhead 16 = .ok (.return_, 1) := by decide +kernel
theorem dX2_passDraft_0 : decode cX2_passDraft 0 = .ok (.iconst 0, 1) := by decide +kernel
theorem dX2_passDraft_1 : decode cX2_passDraft 1 = .ok (.istore_n 2, 1) := by decide +kernel
theorem dX2_passDraft_2 : decode cX2_passDraft 2 = .ok (.iload_n 2, 1) := by decide +kernel
theorem dX2_passDraft_3 : decode cX2_passDraft 3 = .ok (.iload_n 1, 1) := by decide +kernel
theorem dX2_passDraft_4 : decode cX2_passDraft 4 = .ok (.if_icmp .ge 24, 3) := by decide +kernel
theorem dX2_passDraft_7 : decode cX2_passDraft 7 = .ok (.aload_n 0, 1) := by decide +kernel
theorem dX2_passDraft_8 : decode cX2_passDraft 8 = .ok (.getfield 18, 3) := by decide +kernel
theorem dX2_passDraft_11 : decode cX2_passDraft 11 = .ok (.aload_n 0, 1) := by decide +kernel
theorem dX2_passDraft_12 : decode cX2_passDraft 12 = .ok (.getfield 18, 3) := by decide +kernel
theorem dX2_passDraft_15 : decode cX2_passDraft 15 = .ok (.iconst 0, 1) := by decide +kernel
theorem dX2_passDraft_16 : decode cX2_passDraft 16 = .ok (.invokevirtual 56, 3) := by decide +kernel
theorem dX2_passDraft_19 : decode cX2_passDraft 19 = .ok (.invokevirtual 60, 3) := by decide +kernel
theorem dX2_passDraft_22 : decode cX2_passDraft 22 = .ok (.iinc 2 1, 3) := by decide +kernel
theorem dX2_passDraft_25 : decode cX2_passDraft 25 = .ok (.goto (-23), 3) := by decide +kernel
theorem dX2_passDraft_28 : decode cX2_passDraft 28 = .ok (.return_, 1) := by decide +kernel
theorem dX2_firstHour_0 : decode cX2_firstHour 0 = .ok (.aload_n 0, 1) := by decide +kernel
theorem dX2_firstHour_1 : decode cX2_firstHour 1 = .ok (.getfield 18, 3) := by decide +kernel
theorem dX2_firstHour_4 : decode cX2_firstHour 4 = .ok (.aload_n 0, 1) := by decide +kernel
theorem dX2_firstHour_5 : decode cX2_firstHour 5 = .ok (.getfield 12, 3) := by decide +kernel
theorem dX2_firstHour_8 : decode cX2_firstHour 8 = .ok (.invokevirtual 48, 3) := by decide +kernel
theorem dX2_firstHour_11 : decode cX2_firstHour 11 = .ok (.iconst 0, 1) := by decide +kernel
theorem dX2_firstHour_12 : decode cX2_firstHour 12 = .ok (.istore_n 3, 1) := by decide +kernel
theorem dX2_firstHour_13 : decode cX2_firstHour 13 = .ok (.iload_n 3, 1) := by decide +kernel
theorem dX2_firstHour_14 : decode cX2_firstHour 14 = .ok (.bipush 60, 2) := by decide +kernel
theorem dX2_firstHour_16 : decode cX2_firstHour 16 = .ok (.if_icmp .gt 60, 3) := by decide +kernel
theorem dX2_firstHour_19 : decode cX2_firstHour 19 = .ok (.iload_n 2, 1) := by decide +kernel
theorem dX2_firstHour_20 : decode cX2_firstHour 20 = .ok (.ifCond .eq 22, 3) := by decide +kernel
theorem dX2_firstHour_23 : decode cX2_firstHour 23 = .ok (.aload_n 0, 1) := by decide +kernel
theorem dX2_firstHour_24 : decode cX2_firstHour 24 = .ok (.getfield 18, 3) := by decide +kernel
theorem dX2_firstHour_27 : decode cX2_firstHour 27 = .ok (.getfield 63, 3) := by decide +kernel
theorem dX2_firstHour_30 : decode cX2_firstHour 30 = .ok (.iload_n 1, 1) := by decide +kernel
theorem dX2_firstHour_31 : decode cX2_firstHour 31 = .ok (.aaload, 1) := by decide +kernel
theorem dX2_firstHour_32 : decode cX2_firstHour 32 = .ok (.getfield 67, 3) := by decide +kernel
theorem dX2_firstHour_35 : decode cX2_firstHour 35 = .ok (.iconst 2, 1) := by decide +kernel
theorem dX2_firstHour_36 : decode cX2_firstHour 36 = .ok (.if_icmp .ne 19, 3) := by decide +kernel
theorem dX2_firstHour_39 : decode cX2_firstHour 39 = .ok (.goto 14, 3) := by decide +kernel
theorem dX2_firstHour_42 : decode cX2_firstHour 42 = .ok (.aload_n 0, 1) := by decide +kernel
theorem dX2_firstHour_43 : decode cX2_firstHour 43 = .ok (.getfield 18, 3) := by decide +kernel
theorem dX2_firstHour_46 : decode cX2_firstHour 46 = .ok (.iload_n 1, 1) := by decide +kernel
theorem dX2_firstHour_47 : decode cX2_firstHour 47 = .ok (.invokevirtual 72, 3) := by decide +kernel
theorem dX2_firstHour_50 : decode cX2_firstHour 50 = .ok (.ifCond .eq 5, 3) := by decide +kernel
theorem dX2_firstHour_53 : decode cX2_firstHour 53 = .ok (.iload_n 3, 1) := by decide +kernel
theorem dX2_firstHour_54 : decode cX2_firstHour 54 = .ok (.ireturn, 1) := by decide +kernel
theorem dX2_firstHour_55 : decode cX2_firstHour 55 = .ok (.aload_n 0, 1) := by decide +kernel
theorem dX2_firstHour_56 : decode cX2_firstHour 56 = .ok (.getfield 18, 3) := by decide +kernel
theorem dX2_firstHour_59 : decode cX2_firstHour 59 = .ok (.aload_n 0, 1) := by decide +kernel
theorem dX2_firstHour_60 : decode cX2_firstHour 60 = .ok (.getfield 18, 3) := by decide +kernel
theorem dX2_firstHour_63 : decode cX2_firstHour 63 = .ok (.iconst 0, 1) := by decide +kernel
theorem dX2_firstHour_64 : decode cX2_firstHour 64 = .ok (.invokevirtual 56, 3) := by decide +kernel
theorem dX2_firstHour_67 : decode cX2_firstHour 67 = .ok (.invokevirtual 60, 3) := by decide +kernel
theorem dX2_firstHour_70 : decode cX2_firstHour 70 = .ok (.iinc 3 1, 3) := by decide +kernel
theorem dX2_firstHour_73 : decode cX2_firstHour 73 = .ok (.goto (-60), 3) := by decide +kernel
theorem dX2_firstHour_76 : decode cX2_firstHour 76 = .ok (.ldc 41, 2) := by decide +kernel
theorem dX2_firstHour_78 : decode cX2_firstHour 78 = .ok (.ireturn, 1) := by decide +kernel
theorem dX2_bestToSend_0 : decode cX2_bestToSend 0 = .ok (.aload_n 0, 1) := by decide +kernel
theorem dX2_bestToSend_1 : decode cX2_bestToSend 1 = .ok (.getfield 12, 3) := by decide +kernel
theorem dX2_bestToSend_4 : decode cX2_bestToSend 4 = .ok (.iconst 0, 1) := by decide +kernel
theorem dX2_bestToSend_5 : decode cX2_bestToSend 5 = .ok (.invokevirtual 76, 3) := by decide +kernel
theorem dX2_bestToSend_8 : decode cX2_bestToSend 8 = .ok (.istore 4, 2) := by decide +kernel
theorem dX2_bestToSend_10 : decode cX2_bestToSend 10 = .ok (.iconst 0, 1) := by decide +kernel
theorem dX2_bestToSend_11 : decode cX2_bestToSend 11 = .ok (.istore 5, 2) := by decide +kernel
theorem dX2_bestToSend_13 : decode cX2_bestToSend 13 = .ok (.iconst (-1), 1) := by decide +kernel
theorem dX2_bestToSend_14 : decode cX2_bestToSend 14 = .ok (.istore 6, 2) := by decide +kernel
theorem dX2_bestToSend_16 : decode cX2_bestToSend 16 = .ok (.iconst 0, 1) := by decide +kernel
theorem dX2_bestToSend_17 : decode cX2_bestToSend 17 = .ok (.istore 7, 2) := by decide +kernel
theorem dX2_bestToSend_19 : decode cX2_bestToSend 19 = .ok (.iload 7, 2) := by decide +kernel
theorem dX2_bestToSend_21 : decode cX2_bestToSend 21 = .ok (.bipush 64, 2) := by decide +kernel
theorem dX2_bestToSend_23 : decode cX2_bestToSend 23 = .ok (.if_icmp .ge 107, 3) := by decide +kernel
theorem dX2_bestToSend_26 : decode cX2_bestToSend 26 = .ok (.iload 7, 2) := by decide +kernel
theorem dX2_bestToSend_28 : decode cX2_bestToSend 28 = .ok (.iload 4, 2) := by decide +kernel
theorem dX2_bestToSend_30 : decode cX2_bestToSend 30 = .ok (.iconst (-1), 1) := by decide +kernel
theorem dX2_bestToSend_31 : decode cX2_bestToSend 31 = .ok (.ixor, 1) := by decide +kernel
theorem dX2_bestToSend_32 : decode cX2_bestToSend 32 = .ok (.iand, 1) := by decide +kernel
theorem dX2_bestToSend_33 : decode cX2_bestToSend 33 = .ok (.ifCond .eq 6, 3) := by decide +kernel
theorem dX2_bestToSend_36 : decode cX2_bestToSend 36 = .ok (.goto 88, 3) := by decide +kernel
theorem dX2_bestToSend_39 : decode cX2_bestToSend 39 = .ok (.aload_n 0, 1) := by decide +kernel
theorem dX2_bestToSend_40 : decode cX2_bestToSend 40 = .ok (.getfield 18, 3) := by decide +kernel
theorem dX2_bestToSend_43 : decode cX2_bestToSend 43 = .ok (.aload_n 0, 1) := by decide +kernel
theorem dX2_bestToSend_44 : decode cX2_bestToSend 44 = .ok (.getfield 12, 3) := by decide +kernel
theorem dX2_bestToSend_47 : decode cX2_bestToSend 47 = .ok (.invokevirtual 48, 3) := by decide +kernel
theorem dX2_bestToSend_50 : decode cX2_bestToSend 50 = .ok (.aload_n 0, 1) := by decide +kernel
theorem dX2_bestToSend_51 : decode cX2_bestToSend 51 = .ok (.getfield 18, 3) := by decide +kernel
theorem dX2_bestToSend_54 : decode cX2_bestToSend 54 = .ok (.iload 7, 2) := by decide +kernel
theorem dX2_bestToSend_56 : decode cX2_bestToSend 56 = .ok (.iload_n 2, 1) := by decide +kernel
theorem dX2_bestToSend_57 : decode cX2_bestToSend 57 = .ok (.invokevirtual 79, 3) := by decide +kernel
theorem dX2_bestToSend_60 : decode cX2_bestToSend 60 = .ok (.aload_n 0, 1) := by decide +kernel
theorem dX2_bestToSend_61 : decode cX2_bestToSend 61 = .ok (.iload_n 1, 1) := by decide +kernel
theorem dX2_bestToSend_62 : decode cX2_bestToSend 62 = .ok (.invokevirtual 52, 3) := by decide +kernel
theorem dX2_bestToSend_65 : decode cX2_bestToSend 65 = .ok (.aload_n 0, 1) := by decide +kernel
theorem dX2_bestToSend_66 : decode cX2_bestToSend 66 = .ok (.getfield 18, 3) := by decide +kernel
theorem dX2_bestToSend_69 : decode cX2_bestToSend 69 = .ok (.invokevirtual 83, 3) := by decide +kernel
theorem dX2_bestToSend_72 : decode cX2_bestToSend 72 = .ok (.invokestatic 87, 3) := by decide +kernel
theorem dX2_bestToSend_75 : decode cX2_bestToSend 75 = .ok (.istore 8, 2) := by decide +kernel
theorem dX2_bestToSend_77 : decode cX2_bestToSend 77 = .ok (.iload 7, 2) := by decide +kernel
theorem dX2_bestToSend_79 : decode cX2_bestToSend 79 = .ok (.invokestatic 87, 3) := by decide +kernel
theorem dX2_bestToSend_82 : decode cX2_bestToSend 82 = .ok (.iload 5, 2) := by decide +kernel
theorem dX2_bestToSend_84 : decode cX2_bestToSend 84 = .ok (.invokestatic 87, 3) := by decide +kernel
theorem dX2_bestToSend_87 : decode cX2_bestToSend 87 = .ok (.if_icmp .ge 7, 3) := by decide +kernel
theorem dX2_bestToSend_90 : decode cX2_bestToSend 90 = .ok (.iconst 1, 1) := by decide +kernel
theorem dX2_bestToSend_91 : decode cX2_bestToSend 91 = .ok (.goto 4, 3) := by decide +kernel
theorem dX2_bestToSend_94 : decode cX2_bestToSend 94 = .ok (.iconst 0, 1) := by decide +kernel
theorem dX2_bestToSend_95 : decode cX2_bestToSend 95 = .ok (.istore 9, 2) := by decide +kernel
theorem dX2_bestToSend_97 : decode cX2_bestToSend 97 = .ok (.iload 8, 2) := by decide +kernel
theorem dX2_bestToSend_99 : decode cX2_bestToSend 99 = .ok (.iload 6, 2) := by decide +kernel
theorem dX2_bestToSend_101 : decode cX2_bestToSend 101 = .ok (.if_icmp .gt 15, 3) := by decide +kernel
theorem dX2_bestToSend_104 : decode cX2_bestToSend 104 = .ok (.iload 8, 2) := by decide +kernel
theorem dX2_bestToSend_106 : decode cX2_bestToSend 106 = .ok (.iload 6, 2) := by decide +kernel
theorem dX2_bestToSend_108 : decode cX2_bestToSend 108 = .ok (.if_icmp .ne 16, 3) := by decide +kernel
theorem dX2_bestToSend_111 : decode cX2_bestToSend 111 = .ok (.iload 9, 2) := by decide +kernel
theorem dX2_bestToSend_113 : decode cX2_bestToSend 113 = .ok (.ifCond .eq 11, 3) := by decide +kernel
theorem dX2_bestToSend_116 : decode cX2_bestToSend 116 = .ok (.iload 8, 2) := by decide +kernel
theorem dX2_bestToSend_118 : decode cX2_bestToSend 118 = .ok (.istore 6, 2) := by decide +kernel
theorem dX2_bestToSend_120 : decode cX2_bestToSend 120 = .ok (.iload 7, 2) := by decide +kernel
theorem dX2_bestToSend_122 : decode cX2_bestToSend 122 = .ok (.istore 5, 2) := by decide +kernel
theorem dX2_bestToSend_124 : decode cX2_bestToSend 124 = .ok (.iinc 7 1, 3) := by decide +kernel
theorem dX2_bestToSend_127 : decode cX2_bestToSend 127 = .ok (.goto (-108), 3) := by decide +kernel
theorem dX2_bestToSend_130 : decode cX2_bestToSend 130 = .ok (.iload_n 3, 1) := by decide +kernel
theorem dX2_bestToSend_131 : decode cX2_bestToSend 131 = .ok (.ifCond .eq 8, 3) := by decide +kernel
theorem dX2_bestToSend_134 : decode cX2_bestToSend 134 = .ok (.iload 6, 2) := by decide +kernel
theorem dX2_bestToSend_136 : decode cX2_bestToSend 136 = .ok (.goto 5, 3) := by decide +kernel
theorem dX2_bestToSend_139 : decode cX2_bestToSend 139 = .ok (.iload 5, 2) := by decide +kernel
theorem dX2_bestToSend_141 : decode cX2_bestToSend 141 = .ok (.ireturn, 1) := by decide +kernel
theorem dX2_bestLetting_0 : decode cX2_bestLetting 0 = .ok (.iconst 1, 1) := by decide +kernel
theorem dX2_bestLetting_1 : decode cX2_bestLetting 1 = .ok (.iconst 2, 1) := by decide +kernel
theorem dX2_bestLetting_2 : decode cX2_bestLetting 2 = .ok (.iload_n 2, 1) := by decide +kernel
theorem dX2_bestLetting_3 : decode cX2_bestLetting 3 = .ok (.imul, 1) := by decide +kernel
theorem dX2_bestLetting_4 : decode cX2_bestLetting 4 = .ok (.ishl, 1) := by decide +kernel
theorem dX2_bestLetting_5 : decode cX2_bestLetting 5 = .ok (.istore 4, 2) := by decide +kernel
theorem dX2_bestLetting_7 : decode cX2_bestLetting 7 = .ok (.iconst 0, 1) := by decide +kernel
theorem dX2_bestLetting_8 : decode cX2_bestLetting 8 = .ok (.istore 5, 2) := by decide +kernel
theorem dX2_bestLetting_10 : decode cX2_bestLetting 10 = .ok (.iconst (-1), 1) := by decide +kernel
theorem dX2_bestLetting_11 : decode cX2_bestLetting 11 = .ok (.istore 6, 2) := by decide +kernel
theorem dX2_bestLetting_13 : decode cX2_bestLetting 13 = .ok (.iconst 0, 1) := by decide +kernel
theorem dX2_bestLetting_14 : decode cX2_bestLetting 14 = .ok (.istore 7, 2) := by decide +kernel
theorem dX2_bestLetting_16 : decode cX2_bestLetting 16 = .ok (.iload 7, 2) := by decide +kernel
theorem dX2_bestLetting_18 : decode cX2_bestLetting 18 = .ok (.iload 4, 2) := by decide +kernel
theorem dX2_bestLetting_20 : decode cX2_bestLetting 20 = .ok (.if_icmp .ge 34, 3) := by decide +kernel
theorem dX2_bestLetting_23 : decode cX2_bestLetting 23 = .ok (.aload_n 0, 1) := by decide +kernel
theorem dX2_bestLetting_24 : decode cX2_bestLetting 24 = .ok (.iload 7, 2) := by decide +kernel
theorem dX2_bestLetting_26 : decode cX2_bestLetting 26 = .ok (.iload_n 1, 1) := by decide +kernel
theorem dX2_bestLetting_27 : decode cX2_bestLetting 27 = .ok (.iload_n 2, 1) := by decide +kernel
theorem dX2_bestLetting_28 : decode cX2_bestLetting 28 = .ok (.invokevirtual 92, 3) := by decide +kernel
theorem dX2_bestLetting_31 : decode cX2_bestLetting 31 = .ok (.istore 8, 2) := by decide +kernel
theorem dX2_bestLetting_33 : decode cX2_bestLetting 33 = .ok (.iload 8, 2) := by decide +kernel
theorem dX2_bestLetting_35 : decode cX2_bestLetting 35 = .ok (.iload 6, 2) := by decide +kernel
theorem dX2_bestLetting_37 : decode cX2_bestLetting 37 = .ok (.if_icmp .le 11, 3) := by decide +kernel
theorem dX2_bestLetting_40 : decode cX2_bestLetting 40 = .ok (.iload 8, 2) := by decide +kernel
theorem dX2_bestLetting_42 : decode cX2_bestLetting 42 = .ok (.istore 6, 2) := by decide +kernel
theorem dX2_bestLetting_44 : decode cX2_bestLetting 44 = .ok (.iload 7, 2) := by decide +kernel
theorem dX2_bestLetting_46 : decode cX2_bestLetting 46 = .ok (.istore 5, 2) := by decide +kernel
theorem dX2_bestLetting_48 : decode cX2_bestLetting 48 = .ok (.iinc 7 1, 3) := by decide +kernel
theorem dX2_bestLetting_51 : decode cX2_bestLetting 51 = .ok (.goto (-35), 3) := by decide +kernel
theorem dX2_bestLetting_54 : decode cX2_bestLetting 54 = .ok (.iload 6, 2) := by decide +kernel
theorem dX2_bestLetting_56 : decode cX2_bestLetting 56 = .ok (.ifCond .lt 8, 3) := by decide +kernel
theorem dX2_bestLetting_59 : decode cX2_bestLetting 59 = .ok (.iload_n 3, 1) := by decide +kernel
theorem dX2_bestLetting_60 : decode cX2_bestLetting 60 = .ok (.iload_n 2, 1) := by decide +kernel
theorem dX2_bestLetting_61 : decode cX2_bestLetting 61 = .ok (.if_icmp .lt 6, 3) := by decide +kernel
theorem dX2_bestLetting_64 : decode cX2_bestLetting 64 = .ok (.ldc 41, 2) := by decide +kernel
theorem dX2_bestLetting_66 : decode cX2_bestLetting 66 = .ok (.ireturn, 1) := by decide +kernel
theorem dX2_bestLetting_67 : decode cX2_bestLetting 67 = .ok (.iload_n 3, 1) := by decide +kernel
theorem dX2_bestLetting_68 : decode cX2_bestLetting 68 = .ok (.ifCond .ge 8, 3) := by decide +kernel
theorem dX2_bestLetting_71 : decode cX2_bestLetting 71 = .ok (.iload 6, 2) := by decide +kernel
theorem dX2_bestLetting_73 : decode cX2_bestLetting 73 = .ok (.goto 10, 3) := by decide +kernel
theorem dX2_bestLetting_76 : decode cX2_bestLetting 76 = .ok (.iload 5, 2) := by decide +kernel
theorem dX2_bestLetting_78 : decode cX2_bestLetting 78 = .ok (.iload_n 2, 1) := by decide +kernel
theorem dX2_bestLetting_79 : decode cX2_bestLetting 79 = .ok (.iload_n 3, 1) := by decide +kernel
theorem dX2_bestLetting_80 : decode cX2_bestLetting 80 = .ok (.invokestatic 96, 3) := by decide +kernel
theorem dX2_bestLetting_83 : decode cX2_bestLetting 83 = .ok (.ireturn, 1) := by decide +kernel
theorem dX2_highBy_0 : decode cX2_highBy 0 = .ok (.aload_n 0, 1) := by decide +kernel
theorem dX2_highBy_1 : decode cX2_highBy 1 = .ok (.getfield 18, 3) := by decide +kernel
theorem dX2_highBy_4 : decode cX2_highBy 4 = .ok (.aload_n 0, 1) := by decide +kernel
theorem dX2_highBy_5 : decode cX2_highBy 5 = .ok (.getfield 12, 3) := by decide +kernel
theorem dX2_highBy_8 : decode cX2_highBy 8 = .ok (.invokevirtual 48, 3) := by decide +kernel
theorem dX2_highBy_11 : decode cX2_highBy 11 = .ok (.aload_n 0, 1) := by decide +kernel
theorem dX2_highBy_12 : decode cX2_highBy 12 = .ok (.getfield 18, 3) := by decide +kernel
theorem dX2_highBy_15 : decode cX2_highBy 15 = .ok (.getfield 63, 3) := by decide +kernel
theorem dX2_highBy_18 : decode cX2_highBy 18 = .ok (.iload_n 2, 1) := by decide +kernel
theorem dX2_highBy_19 : decode cX2_highBy 19 = .ok (.aaload, 1) := by decide +kernel
theorem dX2_highBy_20 : decode cX2_highBy 20 = .ok (.astore 4, 2) := by decide +kernel
theorem dX2_highBy_22 : decode cX2_highBy 22 = .ok (.iconst 0, 1) := by decide +kernel
theorem dX2_highBy_23 : decode cX2_highBy 23 = .ok (.istore 5, 2) := by decide +kernel
theorem dX2_highBy_25 : decode cX2_highBy 25 = .ok (.iload 5, 2) := by decide +kernel
theorem dX2_highBy_27 : decode cX2_highBy 27 = .ok (.iload_n 3, 1) := by decide +kernel
theorem dX2_highBy_28 : decode cX2_highBy 28 = .ok (.if_icmp .ge 47, 3) := by decide +kernel
theorem dX2_highBy_31 : decode cX2_highBy 31 = .ok (.aload 4, 2) := by decide +kernel
theorem dX2_highBy_33 : decode cX2_highBy 33 = .ok (.invokevirtual 99, 3) := by decide +kernel
theorem dX2_highBy_36 : decode cX2_highBy 36 = .ok (.ifCond .eq 39, 3) := by decide +kernel
theorem dX2_highBy_39 : decode cX2_highBy 39 = .ok (.aload 4, 2) := by decide +kernel
theorem dX2_highBy_41 : decode cX2_highBy 41 = .ok (.iload_n 1, 1) := by decide +kernel
theorem dX2_highBy_42 : decode cX2_highBy 42 = .ok (.iload_n 3, 1) := by decide +kernel
theorem dX2_highBy_43 : decode cX2_highBy 43 = .ok (.iload 5, 2) := by decide +kernel
theorem dX2_highBy_45 : decode cX2_highBy 45 = .ok (.invokestatic 96, 3) := by decide +kernel
theorem dX2_highBy_48 : decode cX2_highBy 48 = .ok (.invokestatic 103, 3) := by decide +kernel
theorem dX2_highBy_51 : decode cX2_highBy 51 = .ok (.invokevirtual 106, 3) := by decide +kernel
theorem dX2_highBy_54 : decode cX2_highBy 54 = .ok (.aload_n 0, 1) := by decide +kernel
theorem dX2_highBy_55 : decode cX2_highBy 55 = .ok (.getfield 18, 3) := by decide +kernel
theorem dX2_highBy_58 : decode cX2_highBy 58 = .ok (.aload_n 0, 1) := by decide +kernel
theorem dX2_highBy_59 : decode cX2_highBy 59 = .ok (.getfield 18, 3) := by decide +kernel
theorem dX2_highBy_62 : decode cX2_highBy 62 = .ok (.iconst 0, 1) := by decide +kernel
theorem dX2_highBy_63 : decode cX2_highBy 63 = .ok (.invokevirtual 56, 3) := by decide +kernel
theorem dX2_highBy_66 : decode cX2_highBy 66 = .ok (.invokevirtual 60, 3) := by decide +kernel
theorem dX2_highBy_69 : decode cX2_highBy 69 = .ok (.iinc 5 1, 3) := by decide +kernel
theorem dX2_highBy_72 : decode cX2_highBy 72 = .ok (.goto (-47), 3) := by decide +kernel
theorem dX2_highBy_75 : decode cX2_highBy 75 = .ok (.aload 4, 2) := by decide +kernel
theorem dX2_highBy_77 : decode cX2_highBy 77 = .ok (.invokevirtual 99, 3) := by decide +kernel
theorem dX2_highBy_80 : decode cX2_highBy 80 = .ok (.ifCond .eq 11, 3) := by decide +kernel
theorem dX2_highBy_83 : decode cX2_highBy 83 = .ok (.aload 4, 2) := by decide +kernel
theorem dX2_highBy_85 : decode cX2_highBy 85 = .ok (.getfield 109, 3) := by decide +kernel
theorem dX2_highBy_88 : decode cX2_highBy 88 = .ok (.goto 4, 3) := by decide +kernel
theorem dX2_highBy_91 : decode cX2_highBy 91 = .ok (.iconst (-1), 1) := by decide +kernel
theorem dX2_highBy_92 : decode cX2_highBy 92 = .ok (.ireturn, 1) := by decide +kernel
theorem dX2_lettingAt_0 : decode cX2_lettingAt 0 = .ok (.iload_n 0, 1) := by decide +kernel
theorem dX2_lettingAt_1 : decode cX2_lettingAt 1 = .ok (.iconst 2, 1) := by decide +kernel
theorem dX2_lettingAt_2 : decode cX2_lettingAt 2 = .ok (.iload_n 1, 1) := by decide +kernel
theorem dX2_lettingAt_3 : decode cX2_lettingAt 3 = .ok (.iconst 1, 1) := by decide +kernel
theorem dX2_lettingAt_4 : decode cX2_lettingAt 4 = .ok (.isub, 1) := by decide +kernel
theorem dX2_lettingAt_5 : decode cX2_lettingAt 5 = .ok (.iload_n 2, 1) := by decide +kernel
theorem dX2_lettingAt_6 : decode cX2_lettingAt 6 = .ok (.isub, 1) := by decide +kernel
theorem dX2_lettingAt_7 : decode cX2_lettingAt 7 = .ok (.imul, 1) := by decide +kernel
theorem dX2_lettingAt_8 : decode cX2_lettingAt 8 = .ok (.ishr, 1) := by decide +kernel
theorem dX2_lettingAt_9 : decode cX2_lettingAt 9 = .ok (.iconst 3, 1) := by decide +kernel
theorem dX2_lettingAt_10 : decode cX2_lettingAt 10 = .ok (.iand, 1) := by decide +kernel
theorem dX2_lettingAt_11 : decode cX2_lettingAt 11 = .ok (.ireturn, 1) := by decide +kernel
theorem dX2_yardsOf_0 : decode cX2_yardsOf 0 = .ok (.iload_n 0, 1) := by decide +kernel
theorem dX2_yardsOf_1 : decode cX2_yardsOf 1 = .ok (.iconst 3, 1) := by decide +kernel
theorem dX2_yardsOf_2 : decode cX2_yardsOf 2 = .ok (.if_icmp .ne 8, 3) := by decide +kernel
theorem dX2_yardsOf_5 : decode cX2_yardsOf 5 = .ok (.bipush (-5), 2) := by decide +kernel
theorem dX2_yardsOf_7 : decode cX2_yardsOf 7 = .ok (.goto 6, 3) := by decide +kernel
theorem dX2_yardsOf_10 : decode cX2_yardsOf 10 = .ok (.iconst 5, 1) := by decide +kernel
theorem dX2_yardsOf_11 : decode cX2_yardsOf 11 = .ok (.iload_n 0, 1) := by decide +kernel
theorem dX2_yardsOf_12 : decode cX2_yardsOf 12 = .ok (.imul, 1) := by decide +kernel
theorem dX2_yardsOf_13 : decode cX2_yardsOf 13 = .ok (.ireturn, 1) := by decide +kernel
theorem dX2_greatestWeight_0 : decode cX2_greatestWeight 0 = .ok (.bipush 60, 2) := by decide +kernel
theorem dX2_greatestWeight_2 : decode cX2_greatestWeight 2 = .ok (.istore_n 3, 1) := by decide +kernel
theorem dX2_greatestWeight_3 : decode cX2_greatestWeight 3 = .ok (.iload_n 3, 1) := by decide +kernel
theorem dX2_greatestWeight_4 : decode cX2_greatestWeight 4 = .ok (.iconst 1, 1) := by decide +kernel
theorem dX2_greatestWeight_5 : decode cX2_greatestWeight 5 = .ok (.if_icmp .lt 34, 3) := by decide +kernel
theorem dX2_greatestWeight_8 : decode cX2_greatestWeight 8 = .ok (.aload_n 0, 1) := by decide +kernel
theorem dX2_greatestWeight_9 : decode cX2_greatestWeight 9 = .ok (.iconst 2, 1) := by decide +kernel
theorem dX2_greatestWeight_10 : decode cX2_greatestWeight 10 = .ok (.iload_n 1, 1) := by decide +kernel
theorem dX2_greatestWeight_11 : decode cX2_greatestWeight 11 = .ok (.iload_n 3, 1) := by decide +kernel
theorem dX2_greatestWeight_12 : decode cX2_greatestWeight 12 = .ok (.invokevirtual 112, 3) := by decide +kernel
theorem dX2_greatestWeight_15 : decode cX2_greatestWeight 15 = .ok (.aload_n 0, 1) := by decide +kernel
theorem dX2_greatestWeight_16 : decode cX2_greatestWeight 16 = .ok (.iload_n 2, 1) := by decide +kernel
theorem dX2_greatestWeight_17 : decode cX2_greatestWeight 17 = .ok (.invokevirtual 52, 3) := by decide +kernel
theorem dX2_greatestWeight_20 : decode cX2_greatestWeight 20 = .ok (.aload_n 0, 1) := by decide +kernel
theorem dX2_greatestWeight_21 : decode cX2_greatestWeight 21 = .ok (.getfield 18, 3) := by decide +kernel
theorem dX2_greatestWeight_24 : decode cX2_greatestWeight 24 = .ok (.iload_n 1, 1) := by decide +kernel
theorem dX2_greatestWeight_25 : decode cX2_greatestWeight 25 = .ok (.invokevirtual 72, 3) := by decide +kernel
theorem dX2_greatestWeight_28 : decode cX2_greatestWeight 28 = .ok (.ifCond .eq 5, 3) := by decide +kernel
theorem dX2_greatestWeight_31 : decode cX2_greatestWeight 31 = .ok (.iload_n 3, 1) := by decide +kernel
theorem dX2_greatestWeight_32 : decode cX2_greatestWeight 32 = .ok (.ireturn, 1) := by decide +kernel
theorem dX2_greatestWeight_33 : decode cX2_greatestWeight 33 = .ok (.iinc 3 (-1), 3) := by decide +kernel
theorem dX2_greatestWeight_36 : decode cX2_greatestWeight 36 = .ok (.goto (-33), 3) := by decide +kernel
theorem dX2_greatestWeight_39 : decode cX2_greatestWeight 39 = .ok (.ldc 41, 2) := by decide +kernel
theorem dX2_greatestWeight_41 : decode cX2_greatestWeight 41 = .ok (.ireturn, 1) := by decide +kernel
theorem dX2_leastSnappingForce_0 : decode cX2_leastSnappingForce 0 = .ok (.iconst 0, 1) := by decide +kernel
theorem dX2_leastSnappingForce_1 : decode cX2_leastSnappingForce 1 = .ok (.istore_n 2, 1) := by decide +kernel
theorem dX2_leastSnappingForce_2 : decode cX2_leastSnappingForce 2 = .ok (.iload_n 2, 1) := by decide +kernel
theorem dX2_leastSnappingForce_3 : decode cX2_leastSnappingForce 3 = .ok (.bipush 99, 2) := by decide +kernel
theorem dX2_leastSnappingForce_5 : decode cX2_leastSnappingForce 5 = .ok (.if_icmp .gt 42, 3) := by decide +kernel
theorem dX2_leastSnappingForce_8 : decode cX2_leastSnappingForce 8 = .ok (.aload_n 0, 1) := by decide +kernel
theorem dX2_leastSnappingForce_9 : decode cX2_leastSnappingForce 9 = .ok (.getfield 12, 3) := by decide +kernel
theorem dX2_leastSnappingForce_12 : decode cX2_leastSnappingForce 12 = .ok (.getfield 63, 3) := by decide +kernel
theorem dX2_leastSnappingForce_15 : decode cX2_leastSnappingForce 15 = .ok (.iload_n 1, 1) := by decide +kernel
theorem dX2_leastSnappingForce_16 : decode cX2_leastSnappingForce 16 = .ok (.aaload, 1) := by decide +kernel
theorem dX2_leastSnappingForce_17 : decode cX2_leastSnappingForce 17 = .ok (.aload_n 0, 1) := by decide +kernel
theorem dX2_leastSnappingForce_18 : decode cX2_leastSnappingForce 18 = .ok (.getfield 12, 3) := by decide +kernel
theorem dX2_leastSnappingForce_21 : decode cX2_leastSnappingForce 21 = .ok (.iload_n 1, 1) := by decide +kernel
theorem dX2_leastSnappingForce_22 : decode cX2_leastSnappingForce 22 = .ok (.iload_n 2, 1) := by decide +kernel
theorem dX2_leastSnappingForce_23 : decode cX2_leastSnappingForce 23 = .ok (.invokevirtual 116, 3) := by decide +kernel
theorem dX2_leastSnappingForce_26 : decode cX2_leastSnappingForce 26 = .ok (.aload_n 0, 1) := by decide +kernel
theorem dX2_leastSnappingForce_27 : decode cX2_leastSnappingForce 27 = .ok (.getfield 12, 3) := by decide +kernel
theorem dX2_leastSnappingForce_30 : decode cX2_leastSnappingForce 30 = .ok (.getfield 120, 3) := by decide +kernel
theorem dX2_leastSnappingForce_33 : decode cX2_leastSnappingForce 33 = .ok (.invokevirtual 123, 3) := by decide +kernel
theorem dX2_leastSnappingForce_36 : decode cX2_leastSnappingForce 36 = .ok (.ifCond .eq 5, 3) := by decide +kernel
theorem dX2_leastSnappingForce_39 : decode cX2_leastSnappingForce 39 = .ok (.iload_n 2, 1) := by decide +kernel
theorem dX2_leastSnappingForce_40 : decode cX2_leastSnappingForce 40 = .ok (.ireturn, 1) := by decide +kernel
theorem dX2_leastSnappingForce_41 : decode cX2_leastSnappingForce 41 = .ok (.iinc 2 1, 3) := by decide +kernel
theorem dX2_leastSnappingForce_44 : decode cX2_leastSnappingForce 44 = .ok (.goto (-42), 3) := by decide +kernel
theorem dX2_leastSnappingForce_47 : decode cX2_leastSnappingForce 47 = .ok (.ldc 41, 2) := by decide +kernel
theorem dX2_leastSnappingForce_49 : decode cX2_leastSnappingForce 49 = .ok (.ireturn, 1) := by decide +kernel
theorem dX2_watch_0 : decode cX2_watch 0 = .ok (.aload_n 0, 1) := by decide +kernel
theorem dX2_watch_1 : decode cX2_watch 1 = .ok (.iload_n 1, 1) := by decide +kernel
theorem dX2_watch_2 : decode cX2_watch 2 = .ok (.putfield 21, 3) := by decide +kernel
theorem dX2_watch_5 : decode cX2_watch 5 = .ok (.aload_n 0, 1) := by decide +kernel
theorem dX2_watch_6 : decode cX2_watch 6 = .ok (.aload_n 2, 1) := by decide +kernel
theorem dX2_watch_7 : decode cX2_watch 7 = .ok (.putfield 25, 3) := by decide +kernel
theorem dX2_watch_10 : decode cX2_watch 10 = .ok (.aload_n 0, 1) := by decide +kernel
theorem dX2_watch_11 : decode cX2_watch 11 = .ok (.iload_n 3, 1) := by decide +kernel
theorem dX2_watch_12 : decode cX2_watch 12 = .ok (.putfield 29, 3) := by decide +kernel
theorem dX2_watch_15 : decode cX2_watch 15 = .ok (.aload_n 0, 1) := by decide +kernel
theorem dX2_watch_16 : decode cX2_watch 16 = .ok (.iload 4, 2) := by decide +kernel
theorem dX2_watch_18 : decode cX2_watch 18 = .ok (.putfield 32, 3) := by decide +kernel
theorem dX2_watch_21 : decode cX2_watch 21 = .ok (.return_, 1) := by decide +kernel
theorem dX2_fittingPapers_0 : decode cX2_fittingPapers 0 = .ok (.iload_n 1, 1) := by decide +kernel
theorem dX2_fittingPapers_1 : decode cX2_fittingPapers 1 = .ok (.lookupswitch 60 #[(0, 27), (1, 43)], 27) := by decide +kernel
theorem dX2_fittingPapers_28 : decode cX2_fittingPapers 28 = .ok (.aload_n 0, 1) := by decide +kernel
theorem dX2_fittingPapers_29 : decode cX2_fittingPapers 29 = .ok (.iconst 0, 1) := by decide +kernel
theorem dX2_fittingPapers_30 : decode cX2_fittingPapers 30 = .ok (.aload_n 0, 1) := by decide +kernel
theorem dX2_fittingPapers_31 : decode cX2_fittingPapers 31 = .ok (.getfield 21, 3) := by decide +kernel
theorem dX2_fittingPapers_34 : decode cX2_fittingPapers 34 = .ok (.iconst 1, 1) := by decide +kernel
theorem dX2_fittingPapers_35 : decode cX2_fittingPapers 35 = .ok (.iconst 5, 1) := by decide +kernel
theorem dX2_fittingPapers_36 : decode cX2_fittingPapers 36 = .ok (.invokevirtual 127, 3) := by decide +kernel
theorem dX2_fittingPapers_39 : decode cX2_fittingPapers 39 = .ok (.aload_n 0, 1) := by decide +kernel
theorem dX2_fittingPapers_40 : decode cX2_fittingPapers 40 = .ok (.getfield 35, 3) := by decide +kernel
theorem dX2_fittingPapers_43 : decode cX2_fittingPapers 43 = .ok (.ireturn, 1) := by decide +kernel
theorem dX2_fittingPapers_44 : decode cX2_fittingPapers 44 = .ok (.aload_n 0, 1) := by decide +kernel
theorem dX2_fittingPapers_45 : decode cX2_fittingPapers 45 = .ok (.iconst 1, 1) := by decide +kernel
theorem dX2_fittingPapers_46 : decode cX2_fittingPapers 46 = .ok (.aload_n 0, 1) := by decide +kernel
theorem dX2_fittingPapers_47 : decode cX2_fittingPapers 47 = .ok (.getfield 21, 3) := by decide +kernel
theorem dX2_fittingPapers_50 : decode cX2_fittingPapers 50 = .ok (.iconst 0, 1) := by decide +kernel
theorem dX2_fittingPapers_51 : decode cX2_fittingPapers 51 = .ok (.bipush 9, 2) := by decide +kernel
theorem dX2_fittingPapers_53 : decode cX2_fittingPapers 53 = .ok (.invokevirtual 127, 3) := by decide +kernel
theorem dX2_fittingPapers_56 : decode cX2_fittingPapers 56 = .ok (.aload_n 0, 1) := by decide +kernel
theorem dX2_fittingPapers_57 : decode cX2_fittingPapers 57 = .ok (.getfield 35, 3) := by decide +kernel
theorem dX2_fittingPapers_60 : decode cX2_fittingPapers 60 = .ok (.ireturn, 1) := by decide +kernel
theorem dX2_fittingPapers_61 : decode cX2_fittingPapers 61 = .ok (.aload_n 0, 1) := by decide +kernel
theorem dX2_fittingPapers_62 : decode cX2_fittingPapers 62 = .ok (.iconst 2, 1) := by decide +kernel
theorem dX2_fittingPapers_63 : decode cX2_fittingPapers 63 = .ok (.aload_n 0, 1) := by decide +kernel
theorem dX2_fittingPapers_64 : decode cX2_fittingPapers 64 = .ok (.getfield 21, 3) := by decide +kernel
theorem dX2_fittingPapers_67 : decode cX2_fittingPapers 67 = .ok (.iconst 1, 1) := by decide +kernel
theorem dX2_fittingPapers_68 : decode cX2_fittingPapers 68 = .ok (.bipush 60, 2) := by decide +kernel
theorem dX2_fittingPapers_70 : decode cX2_fittingPapers 70 = .ok (.invokevirtual 127, 3) := by decide +kernel
theorem dX2_fittingPapers_73 : decode cX2_fittingPapers 73 = .ok (.iload_n 1, 1) := by decide +kernel
theorem dX2_fittingPapers_74 : decode cX2_fittingPapers 74 = .ok (.iconst 2, 1) := by decide +kernel
theorem dX2_fittingPapers_75 : decode cX2_fittingPapers 75 = .ok (.if_icmp .ne 8, 3) := by decide +kernel
theorem dX2_fittingPapers_78 : decode cX2_fittingPapers 78 = .ok (.aload_n 0, 1) := by decide +kernel
theorem dX2_fittingPapers_79 : decode cX2_fittingPapers 79 = .ok (.getfield 38, 3) := by decide +kernel
theorem dX2_fittingPapers_82 : decode cX2_fittingPapers 82 = .ok (.ireturn, 1) := by decide +kernel
theorem dX2_fittingPapers_83 : decode cX2_fittingPapers 83 = .ok (.iload_n 1, 1) := by decide +kernel
theorem dX2_fittingPapers_84 : decode cX2_fittingPapers 84 = .ok (.iconst 3, 1) := by decide +kernel
theorem dX2_fittingPapers_85 : decode cX2_fittingPapers 85 = .ok (.if_icmp .ne 10, 3) := by decide +kernel
theorem dX2_fittingPapers_88 : decode cX2_fittingPapers 88 = .ok (.aload_n 0, 1) := by decide +kernel
theorem dX2_fittingPapers_89 : decode cX2_fittingPapers 89 = .ok (.getfield 42, 3) := by decide +kernel
theorem dX2_fittingPapers_92 : decode cX2_fittingPapers 92 = .ok (.goto 7, 3) := by decide +kernel
theorem dX2_fittingPapers_95 : decode cX2_fittingPapers 95 = .ok (.aload_n 0, 1) := by decide +kernel
theorem dX2_fittingPapers_96 : decode cX2_fittingPapers 96 = .ok (.getfield 45, 3) := by decide +kernel
theorem dX2_fittingPapers_99 : decode cX2_fittingPapers 99 = .ok (.ireturn, 1) := by decide +kernel
theorem dX2_fittingForces_0 : decode cX2_fittingForces 0 = .ok (.aload_n 0, 1) := by decide +kernel
theorem dX2_fittingForces_1 : decode cX2_fittingForces 1 = .ok (.iconst 3, 1) := by decide +kernel
theorem dX2_fittingForces_2 : decode cX2_fittingForces 2 = .ok (.iload_n 1, 1) := by decide +kernel
theorem dX2_fittingForces_3 : decode cX2_fittingForces 3 = .ok (.iconst 0, 1) := by decide +kernel
theorem dX2_fittingForces_4 : decode cX2_fittingForces 4 = .ok (.bipush 9, 2) := by decide +kernel
theorem dX2_fittingForces_6 : decode cX2_fittingForces 6 = .ok (.invokevirtual 127, 3) := by decide +kernel
theorem dX2_fittingForces_9 : decode cX2_fittingForces 9 = .ok (.aload_n 0, 1) := by decide +kernel
theorem dX2_fittingForces_10 : decode cX2_fittingForces 10 = .ok (.getfield 35, 3) := by decide +kernel
theorem dX2_fittingForces_13 : decode cX2_fittingForces 13 = .ok (.ireturn, 1) := by decide +kernel
theorem dX2_fittingTapes_0 : decode cX2_fittingTapes 0 = .ok (.aload_n 0, 1) := by decide +kernel
theorem dX2_fittingTapes_1 : decode cX2_fittingTapes 1 = .ok (.iconst 4, 1) := by decide +kernel
theorem dX2_fittingTapes_2 : decode cX2_fittingTapes 2 = .ok (.iconst 0, 1) := by decide +kernel
theorem dX2_fittingTapes_3 : decode cX2_fittingTapes 3 = .ok (.iconst 1, 1) := by decide +kernel
theorem dX2_fittingTapes_4 : decode cX2_fittingTapes 4 = .ok (.bipush 99, 2) := by decide +kernel
theorem dX2_fittingTapes_6 : decode cX2_fittingTapes 6 = .ok (.invokevirtual 127, 3) := by decide +kernel
theorem dX2_fittingTapes_9 : decode cX2_fittingTapes 9 = .ok (.iload_n 1, 1) := by decide +kernel
theorem dX2_fittingTapes_10 : decode cX2_fittingTapes 10 = .ok (.ifCond .ne 10, 3) := by decide +kernel
theorem dX2_fittingTapes_13 : decode cX2_fittingTapes 13 = .ok (.aload_n 0, 1) := by decide +kernel
theorem dX2_fittingTapes_14 : decode cX2_fittingTapes 14 = .ok (.getfield 38, 3) := by decide +kernel
theorem dX2_fittingTapes_17 : decode cX2_fittingTapes 17 = .ok (.goto 7, 3) := by decide +kernel
theorem dX2_fittingTapes_20 : decode cX2_fittingTapes 20 = .ok (.aload_n 0, 1) := by decide +kernel
theorem dX2_fittingTapes_21 : decode cX2_fittingTapes 21 = .ok (.getfield 42, 3) := by decide +kernel
theorem dX2_fittingTapes_24 : decode cX2_fittingTapes 24 = .ok (.ireturn, 1) := by decide +kernel
theorem dX2_search_0 : decode cX2_search 0 = .ok (.aload_n 0, 1) := by decide +kernel
theorem dX2_search_1 : decode cX2_search 1 = .ok (.iconst 0, 1) := by decide +kernel
theorem dX2_search_2 : decode cX2_search 2 = .ok (.putfield 35, 3) := by decide +kernel
theorem dX2_search_5 : decode cX2_search 5 = .ok (.aload_n 0, 1) := by decide +kernel
theorem dX2_search_6 : decode cX2_search 6 = .ok (.iconst 0, 1) := by decide +kernel
theorem dX2_search_7 : decode cX2_search 7 = .ok (.putfield 38, 3) := by decide +kernel
theorem dX2_search_10 : decode cX2_search 10 = .ok (.aload_n 0, 1) := by decide +kernel
theorem dX2_search_11 : decode cX2_search 11 = .ok (.ldc 41, 2) := by decide +kernel
theorem dX2_search_13 : decode cX2_search 13 = .ok (.putfield 42, 3) := by decide +kernel
theorem dX2_search_16 : decode cX2_search 16 = .ok (.aload_n 0, 1) := by decide +kernel
theorem dX2_search_17 : decode cX2_search 17 = .ok (.ldc 41, 2) := by decide +kernel
theorem dX2_search_19 : decode cX2_search 19 = .ok (.putfield 45, 3) := by decide +kernel
theorem dX2_search_22 : decode cX2_search 22 = .ok (.iload_n 3, 1) := by decide +kernel
theorem dX2_search_23 : decode cX2_search 23 = .ok (.istore 5, 2) := by decide +kernel
theorem dX2_search_25 : decode cX2_search 25 = .ok (.iload 5, 2) := by decide +kernel
theorem dX2_search_27 : decode cX2_search 27 = .ok (.iload 4, 2) := by decide +kernel
theorem dX2_search_29 : decode cX2_search 29 = .ok (.if_icmp .gt 30, 3) := by decide +kernel
theorem dX2_search_32 : decode cX2_search 32 = .ok (.aload_n 0, 1) := by decide +kernel
theorem dX2_search_33 : decode cX2_search 33 = .ok (.iload_n 1, 1) := by decide +kernel
theorem dX2_search_34 : decode cX2_search 34 = .ok (.iload_n 2, 1) := by decide +kernel
theorem dX2_search_35 : decode cX2_search 35 = .ok (.iload 5, 2) := by decide +kernel
theorem dX2_search_37 : decode cX2_search 37 = .ok (.invokevirtual 112, 3) := by decide +kernel
theorem dX2_search_40 : decode cX2_search 40 = .ok (.aload_n 0, 1) := by decide +kernel
theorem dX2_search_41 : decode cX2_search 41 = .ok (.invokevirtual 131, 3) := by decide +kernel
theorem dX2_search_44 : decode cX2_search 44 = .ok (.ifCond .eq 9, 3) := by decide +kernel
theorem dX2_search_47 : decode cX2_search 47 = .ok (.aload_n 0, 1) := by decide +kernel
theorem dX2_search_48 : decode cX2_search 48 = .ok (.iload 5, 2) := by decide +kernel
theorem dX2_search_50 : decode cX2_search 50 = .ok (.invokevirtual 134, 3) := by decide +kernel
theorem dX2_search_53 : decode cX2_search 53 = .ok (.iinc 5 1, 3) := by decide +kernel
theorem dX2_search_56 : decode cX2_search 56 = .ok (.goto (-31), 3) := by decide +kernel
theorem dX2_search_59 : decode cX2_search 59 = .ok (.return_, 1) := by decide +kernel
theorem dX2_noteFitting_0 : decode cX2_noteFitting 0 = .ok (.aload_n 0, 1) := by decide +kernel
theorem dX2_noteFitting_1 : decode cX2_noteFitting 1 = .ok (.getfield 38, 3) := by decide +kernel
theorem dX2_noteFitting_4 : decode cX2_noteFitting 4 = .ok (.ifCond .ne 8, 3) := by decide +kernel
theorem dX2_noteFitting_7 : decode cX2_noteFitting 7 = .ok (.aload_n 0, 1) := by decide +kernel
theorem dX2_noteFitting_8 : decode cX2_noteFitting 8 = .ok (.iload_n 1, 1) := by decide +kernel
theorem dX2_noteFitting_9 : decode cX2_noteFitting 9 = .ok (.putfield 42, 3) := by decide +kernel
theorem dX2_noteFitting_12 : decode cX2_noteFitting 12 = .ok (.aload_n 0, 1) := by decide +kernel
theorem dX2_noteFitting_13 : decode cX2_noteFitting 13 = .ok (.iload_n 1, 1) := by decide +kernel
theorem dX2_noteFitting_14 : decode cX2_noteFitting 14 = .ok (.putfield 45, 3) := by decide +kernel
theorem dX2_noteFitting_17 : decode cX2_noteFitting 17 = .ok (.aload_n 0, 1) := by decide +kernel
theorem dX2_noteFitting_18 : decode cX2_noteFitting 18 = .ok (.dup, 1) := by decide +kernel
theorem dX2_noteFitting_19 : decode cX2_noteFitting 19 = .ok (.getfield 38, 3) := by decide +kernel
theorem dX2_noteFitting_22 : decode cX2_noteFitting 22 = .ok (.iconst 1, 1) := by decide +kernel
theorem dX2_noteFitting_23 : decode cX2_noteFitting 23 = .ok (.iadd, 1) := by decide +kernel
theorem dX2_noteFitting_24 : decode cX2_noteFitting 24 = .ok (.putfield 38, 3) := by decide +kernel
theorem dX2_noteFitting_27 : decode cX2_noteFitting 27 = .ok (.iload_n 1, 1) := by decide +kernel
theorem dX2_noteFitting_28 : decode cX2_noteFitting 28 = .ok (.bipush 9, 2) := by decide +kernel
theorem dX2_noteFitting_30 : decode cX2_noteFitting 30 = .ok (.if_icmp .gt 15, 3) := by decide +kernel
theorem dX2_noteFitting_33 : decode cX2_noteFitting 33 = .ok (.aload_n 0, 1) := by decide +kernel
theorem dX2_noteFitting_34 : decode cX2_noteFitting 34 = .ok (.dup, 1) := by decide +kernel
theorem dX2_noteFitting_35 : decode cX2_noteFitting 35 = .ok (.getfield 35, 3) := by decide +kernel
theorem dX2_noteFitting_38 : decode cX2_noteFitting 38 = .ok (.iconst 1, 1) := by decide +kernel
theorem dX2_noteFitting_39 : decode cX2_noteFitting 39 = .ok (.iload_n 1, 1) := by decide +kernel
theorem dX2_noteFitting_40 : decode cX2_noteFitting 40 = .ok (.ishl, 1) := by decide +kernel
theorem dX2_noteFitting_41 : decode cX2_noteFitting 41 = .ok (.ior, 1) := by decide +kernel
theorem dX2_noteFitting_42 : decode cX2_noteFitting 42 = .ok (.putfield 35, 3) := by decide +kernel
theorem dX2_noteFitting_45 : decode cX2_noteFitting 45 = .ok (.return_, 1) := by decide +kernel
theorem dX2_draftWith_0 : decode cX2_draftWith 0 = .ok (.aload_n 0, 1) := by decide +kernel
theorem dX2_draftWith_1 : decode cX2_draftWith 1 = .ok (.getfield 18, 3) := by decide +kernel
theorem dX2_draftWith_4 : decode cX2_draftWith 4 = .ok (.aload_n 0, 1) := by decide +kernel
theorem dX2_draftWith_5 : decode cX2_draftWith 5 = .ok (.getfield 12, 3) := by decide +kernel
theorem dX2_draftWith_8 : decode cX2_draftWith 8 = .ok (.invokevirtual 48, 3) := by decide +kernel
theorem dX2_draftWith_11 : decode cX2_draftWith 11 = .ok (.iload_n 1, 1) := by decide +kernel
theorem dX2_draftWith_12 : decode cX2_draftWith 12 = .ok (.tableswitch 93 0 3 #[32, 48, 64, 80], 32) := by decide +kernel
theorem dX2_draftWith_44 : decode cX2_draftWith 44 = .ok (.aload_n 0, 1) := by decide +kernel
theorem dX2_draftWith_45 : decode cX2_draftWith 45 = .ok (.getfield 18, 3) := by decide +kernel
theorem dX2_draftWith_48 : decode cX2_draftWith 48 = .ok (.getfield 63, 3) := by decide +kernel
theorem dX2_draftWith_51 : decode cX2_draftWith 51 = .ok (.iload_n 2, 1) := by decide +kernel
theorem dX2_draftWith_52 : decode cX2_draftWith 52 = .ok (.aaload, 1) := by decide +kernel
theorem dX2_draftWith_53 : decode cX2_draftWith 53 = .ok (.iload_n 3, 1) := by decide +kernel
theorem dX2_draftWith_54 : decode cX2_draftWith 54 = .ok (.putfield 137, 3) := by decide +kernel
theorem dX2_draftWith_57 : decode cX2_draftWith 57 = .ok (.goto 56, 3) := by decide +kernel
theorem dX2_draftWith_60 : decode cX2_draftWith 60 = .ok (.aload_n 0, 1) := by decide +kernel
theorem dX2_draftWith_61 : decode cX2_draftWith 61 = .ok (.getfield 18, 3) := by decide +kernel
theorem dX2_draftWith_64 : decode cX2_draftWith 64 = .ok (.getfield 63, 3) := by decide +kernel
theorem dX2_draftWith_67 : decode cX2_draftWith 67 = .ok (.iload_n 2, 1) := by decide +kernel
theorem dX2_draftWith_68 : decode cX2_draftWith 68 = .ok (.aaload, 1) := by decide +kernel
theorem dX2_draftWith_69 : decode cX2_draftWith 69 = .ok (.iload_n 3, 1) := by decide +kernel
theorem dX2_draftWith_70 : decode cX2_draftWith 70 = .ok (.putfield 140, 3) := by decide +kernel
theorem dX2_draftWith_73 : decode cX2_draftWith 73 = .ok (.goto 40, 3) := by decide +kernel
theorem dX2_draftWith_76 : decode cX2_draftWith 76 = .ok (.aload_n 0, 1) := by decide +kernel
theorem dX2_draftWith_77 : decode cX2_draftWith 77 = .ok (.getfield 18, 3) := by decide +kernel
theorem dX2_draftWith_80 : decode cX2_draftWith 80 = .ok (.getfield 63, 3) := by decide +kernel
theorem dX2_draftWith_83 : decode cX2_draftWith 83 = .ok (.iload_n 2, 1) := by decide +kernel
theorem dX2_draftWith_84 : decode cX2_draftWith 84 = .ok (.aaload, 1) := by decide +kernel
theorem dX2_draftWith_85 : decode cX2_draftWith 85 = .ok (.iload_n 3, 1) := by decide +kernel
theorem dX2_draftWith_86 : decode cX2_draftWith 86 = .ok (.putfield 143, 3) := by decide +kernel
theorem dX2_draftWith_89 : decode cX2_draftWith 89 = .ok (.goto 24, 3) := by decide +kernel
theorem dX2_draftWith_92 : decode cX2_draftWith 92 = .ok (.aload_n 0, 1) := by decide +kernel
theorem dX2_draftWith_93 : decode cX2_draftWith 93 = .ok (.getfield 18, 3) := by decide +kernel
theorem dX2_draftWith_96 : decode cX2_draftWith 96 = .ok (.getfield 146, 3) := by decide +kernel
theorem dX2_draftWith_99 : decode cX2_draftWith 99 = .ok (.iload_n 2, 1) := by decide +kernel
theorem dX2_draftWith_100 : decode cX2_draftWith 100 = .ok (.iload_n 3, 1) := by decide +kernel
theorem dX2_draftWith_101 : decode cX2_draftWith 101 = .ok (.iastore, 1) := by decide +kernel
theorem dX2_draftWith_102 : decode cX2_draftWith 102 = .ok (.goto 11, 3) := by decide +kernel
theorem dX2_draftWith_105 : decode cX2_draftWith 105 = .ok (.aload_n 0, 1) := by decide +kernel
theorem dX2_draftWith_106 : decode cX2_draftWith 106 = .ok (.getfield 18, 3) := by decide +kernel
theorem dX2_draftWith_109 : decode cX2_draftWith 109 = .ok (.iload_n 3, 1) := by decide +kernel
theorem dX2_draftWith_110 : decode cX2_draftWith 110 = .ok (.putfield 120, 3) := by decide +kernel
theorem dX2_draftWith_113 : decode cX2_draftWith 113 = .ok (.return_, 1) := by decide +kernel
theorem dX2_draftIsAsSeen_0 : decode cX2_draftIsAsSeen 0 = .ok (.aload_n 0, 1) := by decide +kernel
theorem dX2_draftIsAsSeen_1 : decode cX2_draftIsAsSeen 1 = .ok (.getfield 25, 3) := by decide +kernel
theorem dX2_draftIsAsSeen_4 : decode cX2_draftIsAsSeen 4 = .ok (.ifnull 21, 3) := by decide +kernel
theorem dX2_draftIsAsSeen_7 : decode cX2_draftIsAsSeen 7 = .ok (.aload_n 0, 1) := by decide +kernel
theorem dX2_draftIsAsSeen_8 : decode cX2_draftIsAsSeen 8 = .ok (.getfield 25, 3) := by decide +kernel
theorem dX2_draftIsAsSeen_11 : decode cX2_draftIsAsSeen 11 = .ok (.aload_n 0, 1) := by decide +kernel
theorem dX2_draftIsAsSeen_12 : decode cX2_draftIsAsSeen 12 = .ok (.getfield 29, 3) := by decide +kernel
theorem dX2_draftIsAsSeen_15 : decode cX2_draftIsAsSeen 15 = .ok (.aload_n 0, 1) := by decide +kernel
theorem dX2_draftIsAsSeen_16 : decode cX2_draftIsAsSeen 16 = .ok (.getfield 32, 3) := by decide +kernel
theorem dX2_draftIsAsSeen_19 : decode cX2_draftIsAsSeen 19 = .ok (.invokevirtual 150, 3) := by decide +kernel
theorem dX2_draftIsAsSeen_22 : decode cX2_draftIsAsSeen 22 = .ok (.ifCond .ne 5, 3) := by decide +kernel
theorem dX2_draftIsAsSeen_25 : decode cX2_draftIsAsSeen 25 = .ok (.iconst 0, 1) := by decide +kernel
theorem dX2_draftIsAsSeen_26 : decode cX2_draftIsAsSeen 26 = .ok (.ireturn, 1) := by decide +kernel
theorem dX2_draftIsAsSeen_27 : decode cX2_draftIsAsSeen 27 = .ok (.iconst 0, 1) := by decide +kernel
theorem dX2_draftIsAsSeen_28 : decode cX2_draftIsAsSeen 28 = .ok (.istore_n 1, 1) := by decide +kernel
theorem dX2_draftIsAsSeen_29 : decode cX2_draftIsAsSeen 29 = .ok (.iload_n 1, 1) := by decide +kernel
theorem dX2_draftIsAsSeen_30 : decode cX2_draftIsAsSeen 30 = .ok (.aload_n 0, 1) := by decide +kernel
theorem dX2_draftIsAsSeen_31 : decode cX2_draftIsAsSeen 31 = .ok (.getfield 32, 3) := by decide +kernel
theorem dX2_draftIsAsSeen_34 : decode cX2_draftIsAsSeen 34 = .ok (.if_icmp .ge 58, 3) := by decide +kernel
theorem dX2_draftIsAsSeen_37 : decode cX2_draftIsAsSeen 37 = .ok (.aload_n 0, 1) := by decide +kernel
theorem dX2_draftIsAsSeen_38 : decode cX2_draftIsAsSeen 38 = .ok (.getfield 18, 3) := by decide +kernel
theorem dX2_draftIsAsSeen_41 : decode cX2_draftIsAsSeen 41 = .ok (.aload_n 0, 1) := by decide +kernel
theorem dX2_draftIsAsSeen_42 : decode cX2_draftIsAsSeen 42 = .ok (.getfield 18, 3) := by decide +kernel
theorem dX2_draftIsAsSeen_45 : decode cX2_draftIsAsSeen 45 = .ok (.iconst 0, 1) := by decide +kernel
theorem dX2_draftIsAsSeen_46 : decode cX2_draftIsAsSeen 46 = .ok (.invokevirtual 56, 3) := by decide +kernel
theorem dX2_draftIsAsSeen_49 : decode cX2_draftIsAsSeen 49 = .ok (.invokevirtual 60, 3) := by decide +kernel
theorem dX2_draftIsAsSeen_52 : decode cX2_draftIsAsSeen 52 = .ok (.aload_n 0, 1) := by decide +kernel
theorem dX2_draftIsAsSeen_53 : decode cX2_draftIsAsSeen 53 = .ok (.getfield 18, 3) := by decide +kernel
theorem dX2_draftIsAsSeen_56 : decode cX2_draftIsAsSeen 56 = .ok (.getfield 63, 3) := by decide +kernel
theorem dX2_draftIsAsSeen_59 : decode cX2_draftIsAsSeen 59 = .ok (.aload_n 0, 1) := by decide +kernel
theorem dX2_draftIsAsSeen_60 : decode cX2_draftIsAsSeen 60 = .ok (.getfield 21, 3) := by decide +kernel
theorem dX2_draftIsAsSeen_63 : decode cX2_draftIsAsSeen 63 = .ok (.aaload, 1) := by decide +kernel
theorem dX2_draftIsAsSeen_64 : decode cX2_draftIsAsSeen 64 = .ok (.getfield 109, 3) := by decide +kernel
theorem dX2_draftIsAsSeen_67 : decode cX2_draftIsAsSeen 67 = .ok (.aload_n 0, 1) := by decide +kernel
theorem dX2_draftIsAsSeen_68 : decode cX2_draftIsAsSeen 68 = .ok (.getfield 25, 3) := by decide +kernel
theorem dX2_draftIsAsSeen_71 : decode cX2_draftIsAsSeen 71 = .ok (.getfield 155, 3) := by decide +kernel
theorem dX2_draftIsAsSeen_74 : decode cX2_draftIsAsSeen 74 = .ok (.aload_n 0, 1) := by decide +kernel
theorem dX2_draftIsAsSeen_75 : decode cX2_draftIsAsSeen 75 = .ok (.getfield 29, 3) := by decide +kernel
theorem dX2_draftIsAsSeen_78 : decode cX2_draftIsAsSeen 78 = .ok (.iload_n 1, 1) := by decide +kernel
theorem dX2_draftIsAsSeen_79 : decode cX2_draftIsAsSeen 79 = .ok (.iadd, 1) := by decide +kernel
theorem dX2_draftIsAsSeen_80 : decode cX2_draftIsAsSeen 80 = .ok (.iaload, 1) := by decide +kernel
theorem dX2_draftIsAsSeen_81 : decode cX2_draftIsAsSeen 81 = .ok (.if_icmp .eq 5, 3) := by decide +kernel
theorem dX2_draftIsAsSeen_84 : decode cX2_draftIsAsSeen 84 = .ok (.iconst 0, 1) := by decide +kernel
theorem dX2_draftIsAsSeen_85 : decode cX2_draftIsAsSeen 85 = .ok (.ireturn, 1) := by decide +kernel
theorem dX2_draftIsAsSeen_86 : decode cX2_draftIsAsSeen 86 = .ok (.iinc 1 1, 3) := by decide +kernel
theorem dX2_draftIsAsSeen_89 : decode cX2_draftIsAsSeen 89 = .ok (.goto (-60), 3) := by decide +kernel
theorem dX2_draftIsAsSeen_92 : decode cX2_draftIsAsSeen 92 = .ok (.iconst 1, 1) := by decide +kernel
theorem dX2_draftIsAsSeen_93 : decode cX2_draftIsAsSeen 93 = .ok (.ireturn, 1) := by decide +kernel
theorem dX2_calmCases_0 : decode cX2_calmCases 0 = .ok (.lconst 0, 1) := by decide +kernel
theorem dX2_calmCases_1 : decode cX2_calmCases 1 = .ok (.lstore 4, 2) := by decide +kernel
theorem dX2_calmCases_3 : decode cX2_calmCases 3 = .ok (.iconst 0, 1) := by decide +kernel
theorem dX2_calmCases_4 : decode cX2_calmCases 4 = .ok (.istore 6, 2) := by decide +kernel
theorem dX2_calmCases_6 : decode cX2_calmCases 6 = .ok (.iload 6, 2) := by decide +kernel
theorem dX2_calmCases_8 : decode cX2_calmCases 8 = .ok (.iconst 1, 1) := by decide +kernel
theorem dX2_calmCases_9 : decode cX2_calmCases 9 = .ok (.iload_n 2, 1) := by decide +kernel
theorem dX2_calmCases_10 : decode cX2_calmCases 10 = .ok (.ishl, 1) := by decide +kernel
theorem dX2_calmCases_11 : decode cX2_calmCases 11 = .ok (.if_icmp .ge 108, 3) := by decide +kernel
theorem dX2_calmCases_14 : decode cX2_calmCases 14 = .ok (.aload_n 0, 1) := by decide +kernel
theorem dX2_calmCases_15 : decode cX2_calmCases 15 = .ok (.getfield 18, 3) := by decide +kernel
theorem dX2_calmCases_18 : decode cX2_calmCases 18 = .ok (.aload_n 0, 1) := by decide +kernel
theorem dX2_calmCases_19 : decode cX2_calmCases 19 = .ok (.getfield 12, 3) := by decide +kernel
theorem dX2_calmCases_22 : decode cX2_calmCases 22 = .ok (.invokevirtual 48, 3) := by decide +kernel
theorem dX2_calmCases_25 : decode cX2_calmCases 25 = .ok (.iconst 0, 1) := by decide +kernel
theorem dX2_calmCases_26 : decode cX2_calmCases 26 = .ok (.istore 7, 2) := by decide +kernel
theorem dX2_calmCases_28 : decode cX2_calmCases 28 = .ok (.iload 7, 2) := by decide +kernel
theorem dX2_calmCases_30 : decode cX2_calmCases 30 = .ok (.iload_n 2, 1) := by decide +kernel
theorem dX2_calmCases_31 : decode cX2_calmCases 31 = .ok (.if_icmp .ge 39, 3) := by decide +kernel
theorem dX2_calmCases_34 : decode cX2_calmCases 34 = .ok (.aload_n 0, 1) := by decide +kernel
theorem dX2_calmCases_35 : decode cX2_calmCases 35 = .ok (.getfield 18, 3) := by decide +kernel
theorem dX2_calmCases_38 : decode cX2_calmCases 38 = .ok (.iload 6, 2) := by decide +kernel
theorem dX2_calmCases_40 : decode cX2_calmCases 40 = .ok (.iload 7, 2) := by decide +kernel
theorem dX2_calmCases_42 : decode cX2_calmCases 42 = .ok (.ishr, 1) := by decide +kernel
theorem dX2_calmCases_43 : decode cX2_calmCases 43 = .ok (.iconst 1, 1) := by decide +kernel
theorem dX2_calmCases_44 : decode cX2_calmCases 44 = .ok (.iand, 1) := by decide +kernel
theorem dX2_calmCases_45 : decode cX2_calmCases 45 = .ok (.iconst 1, 1) := by decide +kernel
theorem dX2_calmCases_46 : decode cX2_calmCases 46 = .ok (.if_icmp .ne 7, 3) := by decide +kernel
theorem dX2_calmCases_49 : decode cX2_calmCases 49 = .ok (.iconst 0, 1) := by decide +kernel
theorem dX2_calmCases_50 : decode cX2_calmCases 50 = .ok (.goto 11, 3) := by decide +kernel
theorem dX2_calmCases_53 : decode cX2_calmCases 53 = .ok (.aload_n 0, 1) := by decide +kernel
theorem dX2_calmCases_54 : decode cX2_calmCases 54 = .ok (.getfield 18, 3) := by decide +kernel
theorem dX2_calmCases_57 : decode cX2_calmCases 57 = .ok (.iconst 0, 1) := by decide +kernel
theorem dX2_calmCases_58 : decode cX2_calmCases 58 = .ok (.invokevirtual 56, 3) := by decide +kernel
theorem dX2_calmCases_61 : decode cX2_calmCases 61 = .ok (.invokevirtual 60, 3) := by decide +kernel
theorem dX2_calmCases_64 : decode cX2_calmCases 64 = .ok (.iinc 7 1, 3) := by decide +kernel
theorem dX2_calmCases_67 : decode cX2_calmCases 67 = .ok (.goto (-39), 3) := by decide +kernel
theorem dX2_calmCases_70 : decode cX2_calmCases 70 = .ok (.aload_n 0, 1) := by decide +kernel
theorem dX2_calmCases_71 : decode cX2_calmCases 71 = .ok (.getfield 18, 3) := by decide +kernel
theorem dX2_calmCases_74 : decode cX2_calmCases 74 = .ok (.iload_n 1, 1) := by decide +kernel
theorem dX2_calmCases_75 : decode cX2_calmCases 75 = .ok (.invokevirtual 72, 3) := by decide +kernel
theorem dX2_calmCases_78 : decode cX2_calmCases 78 = .ok (.ifCond .eq 35, 3) := by decide +kernel
theorem dX2_calmCases_81 : decode cX2_calmCases 81 = .ok (.iload 6, 2) := by decide +kernel
theorem dX2_calmCases_83 : decode cX2_calmCases 83 = .ok (.invokestatic 87, 3) := by decide +kernel
theorem dX2_calmCases_86 : decode cX2_calmCases 86 = .ok (.istore 7, 2) := by decide +kernel
theorem dX2_calmCases_88 : decode cX2_calmCases 88 = .ok (.lload 4, 2) := by decide +kernel
theorem dX2_calmCases_90 : decode cX2_calmCases 90 = .ok (.iload_n 3, 1) := by decide +kernel
theorem dX2_calmCases_91 : decode cX2_calmCases 91 = .ok (.i2l, 1) := by decide +kernel
theorem dX2_calmCases_92 : decode cX2_calmCases 92 = .ok (.iload 7, 2) := by decide +kernel
theorem dX2_calmCases_94 : decode cX2_calmCases 94 = .ok (.invokestatic 158, 3) := by decide +kernel
theorem dX2_calmCases_97 : decode cX2_calmCases 97 = .ok (.bipush 10, 2) := by decide +kernel
theorem dX2_calmCases_99 : decode cX2_calmCases 99 = .ok (.iload_n 3, 1) := by decide +kernel
theorem dX2_calmCases_100 : decode cX2_calmCases 100 = .ok (.isub, 1) := by decide +kernel
theorem dX2_calmCases_101 : decode cX2_calmCases 101 = .ok (.i2l, 1) := by decide +kernel
theorem dX2_calmCases_102 : decode cX2_calmCases 102 = .ok (.iload_n 2, 1) := by decide +kernel
theorem dX2_calmCases_103 : decode cX2_calmCases 103 = .ok (.iload 7, 2) := by decide +kernel
theorem dX2_calmCases_105 : decode cX2_calmCases 105 = .ok (.isub, 1) := by decide +kernel
theorem dX2_calmCases_106 : decode cX2_calmCases 106 = .ok (.invokestatic 158, 3) := by decide +kernel
theorem dX2_calmCases_109 : decode cX2_calmCases 109 = .ok (.lmul, 1) := by decide +kernel
theorem dX2_calmCases_110 : decode cX2_calmCases 110 = .ok (.ladd, 1) := by decide +kernel
theorem dX2_calmCases_111 : decode cX2_calmCases 111 = .ok (.lstore 4, 2) := by decide +kernel
theorem dX2_calmCases_113 : decode cX2_calmCases 113 = .ok (.iinc 6 1, 3) := by decide +kernel
theorem dX2_calmCases_116 : decode cX2_calmCases 116 = .ok (.goto (-110), 3) := by decide +kernel
theorem dX2_calmCases_119 : decode cX2_calmCases 119 = .ok (.lload 4, 2) := by decide +kernel
theorem dX2_calmCases_121 : decode cX2_calmCases 121 = .ok (.lreturn, 1) := by decide +kernel
theorem dX2_draftYears_0 : decode cX2_draftYears 0 = .ok (.aload_n 0, 1) := by decide +kernel
theorem dX2_draftYears_1 : decode cX2_draftYears 1 = .ok (.getfield 18, 3) := by decide +kernel
theorem dX2_draftYears_4 : decode cX2_draftYears 4 = .ok (.aload_n 0, 1) := by decide +kernel
theorem dX2_draftYears_5 : decode cX2_draftYears 5 = .ok (.getfield 12, 3) := by decide +kernel
theorem dX2_draftYears_8 : decode cX2_draftYears 8 = .ok (.invokevirtual 48, 3) := by decide +kernel
theorem dX2_draftYears_11 : decode cX2_draftYears 11 = .ok (.iload_n 2, 1) := by decide +kernel
theorem dX2_draftYears_12 : decode cX2_draftYears 12 = .ok (.i2l, 1) := by decide +kernel
theorem dX2_draftYears_13 : decode cX2_draftYears 13 = .ok (.lstore_n 3, 1) := by decide +kernel
theorem dX2_draftYears_14 : decode cX2_draftYears 14 = .ok (.iconst 0, 1) := by decide +kernel
theorem dX2_draftYears_15 : decode cX2_draftYears 15 = .ok (.istore 5, 2) := by decide +kernel
theorem dX2_draftYears_17 : decode cX2_draftYears 17 = .ok (.iload 5, 2) := by decide +kernel
theorem dX2_draftYears_19 : decode cX2_draftYears 19 = .ok (.iload_n 1, 1) := by decide +kernel
theorem dX2_draftYears_20 : decode cX2_draftYears 20 = .ok (.if_icmp .ge 38, 3) := by decide +kernel
theorem dX2_draftYears_23 : decode cX2_draftYears 23 = .ok (.lload_n 3, 1) := by decide +kernel
theorem dX2_draftYears_24 : decode cX2_draftYears 24 = .ok (.ldc2_w 162, 3) := by decide +kernel
theorem dX2_draftYears_27 : decode cX2_draftYears 27 = .ok (.lmul, 1) := by decide +kernel
theorem dX2_draftYears_28 : decode cX2_draftYears 28 = .ok (.ldc2_w 164, 3) := by decide +kernel
theorem dX2_draftYears_31 : decode cX2_draftYears 31 = .ok (.lrem, 1) := by decide +kernel
theorem dX2_draftYears_32 : decode cX2_draftYears 32 = .ok (.lstore_n 3, 1) := by decide +kernel
theorem dX2_draftYears_33 : decode cX2_draftYears 33 = .ok (.aload_n 0, 1) := by decide +kernel
theorem dX2_draftYears_34 : decode cX2_draftYears 34 = .ok (.lload_n 3, 1) := by decide +kernel
theorem dX2_draftYears_35 : decode cX2_draftYears 35 = .ok (.l2i, 1) := by decide +kernel
theorem dX2_draftYears_36 : decode cX2_draftYears 36 = .ok (.invokevirtual 166, 3) := by decide +kernel
theorem dX2_draftYears_39 : decode cX2_draftYears 39 = .ok (.aload_n 0, 1) := by decide +kernel
theorem dX2_draftYears_40 : decode cX2_draftYears 40 = .ok (.getfield 18, 3) := by decide +kernel
theorem dX2_draftYears_43 : decode cX2_draftYears 43 = .ok (.lload_n 3, 1) := by decide +kernel
theorem dX2_draftYears_44 : decode cX2_draftYears 44 = .ok (.ldc2_w 169, 3) := by decide +kernel
theorem dX2_draftYears_47 : decode cX2_draftYears 47 = .ok (.lrem, 1) := by decide +kernel
theorem dX2_draftYears_48 : decode cX2_draftYears 48 = .ok (.l2i, 1) := by decide +kernel
theorem dX2_draftYears_49 : decode cX2_draftYears 49 = .ok (.invokevirtual 60, 3) := by decide +kernel
theorem dX2_draftYears_52 : decode cX2_draftYears 52 = .ok (.iinc 5 1, 3) := by decide +kernel
theorem dX2_draftYears_55 : decode cX2_draftYears 55 = .ok (.goto (-38), 3) := by decide +kernel
theorem dX2_draftYears_58 : decode cX2_draftYears 58 = .ok (.return_, 1) := by decide +kernel
theorem dX2_drawAct_0 : decode cX2_drawAct 0 = .ok (.aload_n 0, 1) := by decide +kernel
theorem dX2_drawAct_1 : decode cX2_drawAct 1 = .ok (.getfield 18, 3) := by decide +kernel
theorem dX2_drawAct_4 : decode cX2_drawAct 4 = .ok (.getfield 171, 3) := by decide +kernel
theorem dX2_drawAct_7 : decode cX2_drawAct 7 = .ok (.iconst 1, 1) := by decide +kernel
theorem dX2_drawAct_8 : decode cX2_drawAct 8 = .ok (.if_icmp .ge 4, 3) := by decide +kernel
theorem dX2_drawAct_11 : decode cX2_drawAct 11 = .ok (.return_, 1) := by decide +kernel
theorem dX2_drawAct_12 : decode cX2_drawAct 12 = .ok (.aload_n 0, 1) := by decide +kernel
theorem dX2_drawAct_13 : decode cX2_drawAct 13 = .ok (.getfield 18, 3) := by decide +kernel
theorem dX2_drawAct_16 : decode cX2_drawAct 16 = .ok (.getfield 63, 3) := by decide +kernel
theorem dX2_drawAct_19 : decode cX2_drawAct 19 = .ok (.iload_n 1, 1) := by decide +kernel
theorem dX2_drawAct_20 : decode cX2_drawAct 20 = .ok (.aload_n 0, 1) := by decide +kernel
theorem dX2_drawAct_21 : decode cX2_drawAct 21 = .ok (.getfield 18, 3) := by decide +kernel
theorem dX2_drawAct_24 : decode cX2_drawAct 24 = .ok (.getfield 171, 3) := by decide +kernel
theorem dX2_drawAct_27 : decode cX2_drawAct 27 = .ok (.irem, 1) := by decide +kernel
theorem dX2_drawAct_28 : decode cX2_drawAct 28 = .ok (.aaload, 1) := by decide +kernel
theorem dX2_drawAct_29 : decode cX2_drawAct 29 = .ok (.astore_n 2, 1) := by decide +kernel
theorem dX2_drawAct_30 : decode cX2_drawAct 30 = .ok (.aload_n 2, 1) := by decide +kernel
theorem dX2_drawAct_31 : decode cX2_drawAct 31 = .ok (.getfield 67, 3) := by decide +kernel
theorem dX2_drawAct_34 : decode cX2_drawAct 34 = .ok (.ifCond .ne 16, 3) := by decide +kernel
theorem dX2_drawAct_37 : decode cX2_drawAct 37 = .ok (.aload_n 2, 1) := by decide +kernel
theorem dX2_drawAct_38 : decode cX2_drawAct 38 = .ok (.iload_n 1, 1) := by decide +kernel
theorem dX2_drawAct_39 : decode cX2_drawAct 39 = .ok (.bipush 40, 2) := by decide +kernel
theorem dX2_drawAct_41 : decode cX2_drawAct 41 = .ok (.irem, 1) := by decide +kernel
theorem dX2_drawAct_42 : decode cX2_drawAct 42 = .ok (.iconst 1, 1) := by decide +kernel
theorem dX2_drawAct_43 : decode cX2_drawAct 43 = .ok (.iadd, 1) := by decide +kernel
theorem dX2_drawAct_44 : decode cX2_drawAct 44 = .ok (.invokevirtual 174, 3) := by decide +kernel
theorem dX2_drawAct_47 : decode cX2_drawAct 47 = .ok (.goto 21, 3) := by decide +kernel
theorem dX2_drawAct_50 : decode cX2_drawAct 50 = .ok (.aload_n 2, 1) := by decide +kernel
theorem dX2_drawAct_51 : decode cX2_drawAct 51 = .ok (.invokevirtual 99, 3) := by decide +kernel
theorem dX2_drawAct_54 : decode cX2_drawAct 54 = .ok (.ifCond .eq 14, 3) := by decide +kernel
theorem dX2_drawAct_57 : decode cX2_drawAct 57 = .ok (.iload_n 1, 1) := by decide +kernel
theorem dX2_drawAct_58 : decode cX2_drawAct 58 = .ok (.iconst 2, 1) := by decide +kernel
theorem dX2_drawAct_59 : decode cX2_drawAct 59 = .ok (.irem, 1) := by decide +kernel
theorem dX2_drawAct_60 : decode cX2_drawAct 60 = .ok (.ifCond .ne 8, 3) := by decide +kernel
theorem dX2_drawAct_63 : decode cX2_drawAct 63 = .ok (.aload_n 2, 1) := by decide +kernel
theorem dX2_drawAct_64 : decode cX2_drawAct 64 = .ok (.iconst 5, 1) := by decide +kernel
theorem dX2_drawAct_65 : decode cX2_drawAct 65 = .ok (.invokevirtual 106, 3) := by decide +kernel
theorem dX2_drawAct_68 : decode cX2_drawAct 68 = .ok (.return_, 1) := by decide +kernel
theorem dX3_init_0 : decode cX3_init 0 = .ok (.aload_n 0, 1) := by decide +kernel
theorem dX3_init_1 : decode cX3_init 1 = .ok (.invokespecial 3, 3) := by decide +kernel
theorem dX3_init_4 : decode cX3_init 4 = .ok (.aload_n 0, 1) := by decide +kernel
theorem dX3_init_5 : decode cX3_init 5 = .ok (.iconst 1, 1) := by decide +kernel
theorem dX3_init_6 : decode cX3_init 6 = .ok (.putfield 9, 3) := by decide +kernel
theorem dX3_init_9 : decode cX3_init 9 = .ok (.aload_n 0, 1) := by decide +kernel
theorem dX3_init_10 : decode cX3_init 10 = .ok (.iconst 0, 1) := by decide +kernel
theorem dX3_init_11 : decode cX3_init 11 = .ok (.putfield 15, 3) := by decide +kernel
theorem dX3_init_14 : decode cX3_init 14 = .ok (.aload_n 0, 1) := by decide +kernel
theorem dX3_init_15 : decode cX3_init 15 = .ok (.iconst 1, 1) := by decide +kernel
theorem dX3_init_16 : decode cX3_init 16 = .ok (.putfield 18, 3) := by decide +kernel
theorem dX3_init_19 : decode cX3_init 19 = .ok (.aload_n 0, 1) := by decide +kernel
theorem dX3_init_20 : decode cX3_init 20 = .ok (.iconst 0, 1) := by decide +kernel
theorem dX3_init_21 : decode cX3_init 21 = .ok (.putfield 21, 3) := by decide +kernel
theorem dX3_init_24 : decode cX3_init 24 = .ok (.aload_n 0, 1) := by decide +kernel
theorem dX3_init_25 : decode cX3_init 25 = .ok (.iconst 0, 1) := by decide +kernel
theorem dX3_init_26 : decode cX3_init 26 = .ok (.putfield 24, 3) := by decide +kernel
theorem dX3_init_29 : decode cX3_init 29 = .ok (.aload_n 0, 1) := by decide +kernel
theorem dX3_init_30 : decode cX3_init 30 = .ok (.iconst 0, 1) := by decide +kernel
theorem dX3_init_31 : decode cX3_init 31 = .ok (.putfield 27, 3) := by decide +kernel
theorem dX3_init_34 : decode cX3_init 34 = .ok (.aload_n 0, 1) := by decide +kernel
theorem dX3_init_35 : decode cX3_init 35 = .ok (.ldc 30, 2) := by decide +kernel
theorem dX3_init_37 : decode cX3_init 37 = .ok (.putfield 31, 3) := by decide +kernel
theorem dX3_init_40 : decode cX3_init 40 = .ok (.return_, 1) := by decide +kernel
theorem dX3_become_0 : decode cX3_become 0 = .ok (.aload_n 0, 1) := by decide +kernel
theorem dX3_become_1 : decode cX3_become 1 = .ok (.aload_n 1, 1) := by decide +kernel
theorem dX3_become_2 : decode cX3_become 2 = .ok (.getfield 9, 3) := by decide +kernel
theorem dX3_become_5 : decode cX3_become 5 = .ok (.putfield 9, 3) := by decide +kernel
theorem dX3_become_8 : decode cX3_become 8 = .ok (.aload_n 0, 1) := by decide +kernel
theorem dX3_become_9 : decode cX3_become 9 = .ok (.aload_n 1, 1) := by decide +kernel
theorem dX3_become_10 : decode cX3_become 10 = .ok (.getfield 15, 3) := by decide +kernel
theorem dX3_become_13 : decode cX3_become 13 = .ok (.putfield 15, 3) := by decide +kernel
theorem dX3_become_16 : decode cX3_become 16 = .ok (.aload_n 0, 1) := by decide +kernel
theorem dX3_become_17 : decode cX3_become 17 = .ok (.aload_n 1, 1) := by decide +kernel
theorem dX3_become_18 : decode cX3_become 18 = .ok (.getfield 18, 3) := by decide +kernel
theorem dX3_become_21 : decode cX3_become 21 = .ok (.putfield 18, 3) := by decide +kernel
theorem dX3_become_24 : decode cX3_become 24 = .ok (.aload_n 0, 1) := by decide +kernel
theorem dX3_become_25 : decode cX3_become 25 = .ok (.aload_n 1, 1) := by decide +kernel
theorem dX3_become_26 : decode cX3_become 26 = .ok (.getfield 21, 3) := by decide +kernel
theorem dX3_become_29 : decode cX3_become 29 = .ok (.putfield 21, 3) := by decide +kernel
theorem dX3_become_32 : decode cX3_become 32 = .ok (.aload_n 0, 1) := by decide +kernel
theorem dX3_become_33 : decode cX3_become 33 = .ok (.aload_n 1, 1) := by decide +kernel
theorem dX3_become_34 : decode cX3_become 34 = .ok (.getfield 24, 3) := by decide +kernel
theorem dX3_become_37 : decode cX3_become 37 = .ok (.putfield 24, 3) := by decide +kernel
theorem dX3_become_40 : decode cX3_become 40 = .ok (.aload_n 0, 1) := by decide +kernel
theorem dX3_become_41 : decode cX3_become 41 = .ok (.aload_n 1, 1) := by decide +kernel
theorem dX3_become_42 : decode cX3_become 42 = .ok (.getfield 27, 3) := by decide +kernel
theorem dX3_become_45 : decode cX3_become 45 = .ok (.putfield 27, 3) := by decide +kernel
theorem dX3_become_48 : decode cX3_become 48 = .ok (.aload_n 0, 1) := by decide +kernel
theorem dX3_become_49 : decode cX3_become 49 = .ok (.aload_n 1, 1) := by decide +kernel
theorem dX3_become_50 : decode cX3_become 50 = .ok (.getfield 31, 3) := by decide +kernel
theorem dX3_become_53 : decode cX3_become 53 = .ok (.putfield 31, 3) := by decide +kernel
theorem dX3_become_56 : decode cX3_become 56 = .ok (.return_, 1) := by decide +kernel
theorem dX3_isUp_0 : decode cX3_isUp 0 = .ok (.aload_n 0, 1) := by decide +kernel
theorem dX3_isUp_1 : decode cX3_isUp 1 = .ok (.getfield 21, 3) := by decide +kernel
theorem dX3_isUp_4 : decode cX3_isUp 4 = .ok (.iconst 1, 1) := by decide +kernel
theorem dX3_isUp_5 : decode cX3_isUp 5 = .ok (.if_icmp .ne 7, 3) := by decide +kernel
theorem dX3_isUp_8 : decode cX3_isUp 8 = .ok (.iconst 1, 1) := by decide +kernel
theorem dX3_isUp_9 : decode cX3_isUp 9 = .ok (.goto 4, 3) := by decide +kernel
theorem dX3_isUp_12 : decode cX3_isUp 12 = .ok (.iconst 0, 1) := by decide +kernel
theorem dX3_isUp_13 : decode cX3_isUp 13 = .ok (.ireturn, 1) := by decide +kernel
theorem dX3_isOf_0 : decode cX3_isOf 0 = .ok (.iload_n 1, 1) := by decide +kernel
theorem dX3_isOf_1 : decode cX3_isOf 1 = .ok (.ifCond .eq 22, 3) := by decide +kernel
theorem dX3_isOf_4 : decode cX3_isOf 4 = .ok (.iload_n 1, 1) := by decide +kernel
theorem dX3_isOf_5 : decode cX3_isOf 5 = .ok (.aload_n 0, 1) := by decide +kernel
theorem dX3_isOf_6 : decode cX3_isOf 6 = .ok (.getfield 9, 3) := by decide +kernel
theorem dX3_isOf_9 : decode cX3_isOf 9 = .ok (.if_icmp .eq 14, 3) := by decide +kernel
theorem dX3_isOf_12 : decode cX3_isOf 12 = .ok (.iload_n 1, 1) := by decide +kernel
theorem dX3_isOf_13 : decode cX3_isOf 13 = .ok (.aload_n 0, 1) := by decide +kernel
theorem dX3_isOf_14 : decode cX3_isOf 14 = .ok (.getfield 9, 3) := by decide +kernel
theorem dX3_isOf_17 : decode cX3_isOf 17 = .ok (.invokestatic 34, 3) := by decide +kernel
theorem dX3_isOf_20 : decode cX3_isOf 20 = .ok (.if_icmp .ne 7, 3) := by decide +kernel
theorem dX3_isOf_23 : decode cX3_isOf 23 = .ok (.iconst 1, 1) := by decide +kernel
theorem dX3_isOf_24 : decode cX3_isOf 24 = .ok (.goto 4, 3) := by decide +kernel
theorem dX3_isOf_27 : decode cX3_isOf 27 = .ok (.iconst 0, 1) := by decide +kernel
theorem dX3_isOf_28 : decode cX3_isOf 28 = .ok (.ireturn, 1) := by decide +kernel
theorem dX3_kindAbove_0 : decode cX3_kindAbove 0 = .ok (.iload_n 0, 1) := by decide +kernel
theorem dX3_kindAbove_1 : decode cX3_kindAbove 1 = .ok (.tableswitch 37 2 5 #[31, 33, 37, 35], 31) := by decide +kernel
theorem dX3_kindAbove_32 : decode cX3_kindAbove 32 = .ok (.iconst 1, 1) := by decide +kernel
theorem dX3_kindAbove_33 : decode cX3_kindAbove 33 = .ok (.ireturn, 1) := by decide +kernel
theorem dX3_kindAbove_34 : decode cX3_kindAbove 34 = .ok (.iconst 1, 1) := by decide +kernel
theorem dX3_kindAbove_35 : decode cX3_kindAbove 35 = .ok (.ireturn, 1) := by decide +kernel
theorem dX3_kindAbove_36 : decode cX3_kindAbove 36 = .ok (.iconst 4, 1) := by decide +kernel
theorem dX3_kindAbove_37 : decode cX3_kindAbove 37 = .ok (.ireturn, 1) := by decide +kernel
theorem dX3_kindAbove_38 : decode cX3_kindAbove 38 = .ok (.iconst 0, 1) := by decide +kernel
theorem dX3_kindAbove_39 : decode cX3_kindAbove 39 = .ok (.ireturn, 1) := by decide +kernel
theorem dX3_sizeBody_0 : decode cX3_sizeBody 0 = .ok (.aload_n 0, 1) := by decide +kernel
theorem dX3_sizeBody_1 : decode cX3_sizeBody 1 = .ok (.getfield 9, 3) := by decide +kernel
theorem dX3_sizeBody_4 : decode cX3_sizeBody 4 = .ok (.tableswitch 41 2 5 #[32, 41, 35, 38], 32) := by decide +kernel
theorem dX3_sizeBody_36 : decode cX3_sizeBody 36 = .ok (.bipush 12, 2) := by decide +kernel
theorem dX3_sizeBody_38 : decode cX3_sizeBody 38 = .ok (.ireturn, 1) := by decide +kernel
theorem dX3_sizeBody_39 : decode cX3_sizeBody 39 = .ok (.bipush 13, 2) := by decide +kernel
theorem dX3_sizeBody_41 : decode cX3_sizeBody 41 = .ok (.ireturn, 1) := by decide +kernel
theorem dX3_sizeBody_42 : decode cX3_sizeBody 42 = .ok (.bipush 14, 2) := by decide +kernel
theorem dX3_sizeBody_44 : decode cX3_sizeBody 44 = .ok (.ireturn, 1) := by decide +kernel
theorem dX3_sizeBody_45 : decode cX3_sizeBody 45 = .ok (.aload_n 0, 1) := by decide +kernel
theorem dX3_sizeBody_46 : decode cX3_sizeBody 46 = .ok (.iconst 1, 1) := by decide +kernel
theorem dX3_sizeBody_47 : decode cX3_sizeBody 47 = .ok (.invokevirtual 38, 3) := by decide +kernel
theorem dX3_sizeBody_50 : decode cX3_sizeBody 50 = .ok (.ifCond .eq 8, 3) := by decide +kernel
theorem dX3_sizeBody_53 : decode cX3_sizeBody 53 = .ok (.bipush 11, 2) := by decide +kernel
theorem dX3_sizeBody_55 : decode cX3_sizeBody 55 = .ok (.goto 5, 3) := by decide +kernel
theorem dX3_sizeBody_58 : decode cX3_sizeBody 58 = .ok (.bipush 10, 2) := by decide +kernel
theorem dX3_sizeBody_60 : decode cX3_sizeBody 60 = .ok (.ireturn, 1) := by decide +kernel
theorem dX3_markBody_0 : decode cX3_markBody 0 = .ok (.aload_n 0, 1) := by decide +kernel
theorem dX3_markBody_1 : decode cX3_markBody 1 = .ok (.getfield 9, 3) := by decide +kernel
theorem dX3_markBody_4 : decode cX3_markBody 4 = .ok (.tableswitch 37 1 3 #[34, 28, 31], 28) := by decide +kernel
theorem dX3_markBody_32 : decode cX3_markBody 32 = .ok (.bipush 24, 2) := by decide +kernel
theorem dX3_markBody_34 : decode cX3_markBody 34 = .ok (.ireturn, 1) := by decide +kernel
theorem dX3_markBody_35 : decode cX3_markBody 35 = .ok (.bipush 22, 2) := by decide +kernel
theorem dX3_markBody_37 : decode cX3_markBody 37 = .ok (.ireturn, 1) := by decide +kernel
theorem dX3_markBody_38 : decode cX3_markBody 38 = .ok (.bipush 21, 2) := by decide +kernel
theorem dX3_markBody_40 : decode cX3_markBody 40 = .ok (.ireturn, 1) := by decide +kernel
theorem dX3_markBody_41 : decode cX3_markBody 41 = .ok (.aload_n 0, 1) := by decide +kernel
theorem dX3_markBody_42 : decode cX3_markBody 42 = .ok (.iconst 4, 1) := by decide +kernel
theorem dX3_markBody_43 : decode cX3_markBody 43 = .ok (.invokevirtual 38, 3) := by decide +kernel
theorem dX3_markBody_46 : decode cX3_markBody 46 = .ok (.ifCond .eq 8, 3) := by decide +kernel
theorem dX3_markBody_49 : decode cX3_markBody 49 = .ok (.bipush 23, 2) := by decide +kernel
theorem dX3_markBody_51 : decode cX3_markBody 51 = .ok (.goto 5, 3) := by decide +kernel
theorem dX3_markBody_54 : decode cX3_markBody 54 = .ok (.bipush 20, 2) := by decide +kernel
theorem dX3_markBody_56 : decode cX3_markBody 56 = .ok (.ireturn, 1) := by decide +kernel
theorem dX3_settle_0 : decode cX3_settle 0 = .ok (.aload_n 0, 1) := by decide +kernel
theorem dX3_settle_1 : decode cX3_settle 1 = .ok (.iload_n 1, 1) := by decide +kernel
theorem dX3_settle_2 : decode cX3_settle 2 = .ok (.putfield 21, 3) := by decide +kernel
theorem dX3_settle_5 : decode cX3_settle 5 = .ok (.aload_n 0, 1) := by decide +kernel
theorem dX3_settle_6 : decode cX3_settle 6 = .ok (.iconst 0, 1) := by decide +kernel
theorem dX3_settle_7 : decode cX3_settle 7 = .ok (.putfield 24, 3) := by decide +kernel
theorem dX3_settle_10 : decode cX3_settle 10 = .ok (.aload_n 0, 1) := by decide +kernel
theorem dX3_settle_11 : decode cX3_settle 11 = .ok (.iconst 0, 1) := by decide +kernel
theorem dX3_settle_12 : decode cX3_settle 12 = .ok (.putfield 27, 3) := by decide +kernel
theorem dX3_settle_15 : decode cX3_settle 15 = .ok (.aload_n 0, 1) := by decide +kernel
theorem dX3_settle_16 : decode cX3_settle 16 = .ok (.iload_n 2, 1) := by decide +kernel
theorem dX3_settle_17 : decode cX3_settle 17 = .ok (.putfield 31, 3) := by decide +kernel
theorem dX3_settle_20 : decode cX3_settle 20 = .ok (.return_, 1) := by decide +kernel
theorem dX3_rise_0 : decode cX3_rise 0 = .ok (.aload_n 0, 1) := by decide +kernel
theorem dX3_rise_1 : decode cX3_rise 1 = .ok (.iconst 1, 1) := by decide +kernel
theorem dX3_rise_2 : decode cX3_rise 2 = .ok (.putfield 21, 3) := by decide +kernel
theorem dX3_rise_5 : decode cX3_rise 5 = .ok (.aload_n 0, 1) := by decide +kernel
theorem dX3_rise_6 : decode cX3_rise 6 = .ok (.iconst 0, 1) := by decide +kernel
theorem dX3_rise_7 : decode cX3_rise 7 = .ok (.putfield 24, 3) := by decide +kernel
theorem dX3_rise_10 : decode cX3_rise 10 = .ok (.aload_n 0, 1) := by decide +kernel
theorem dX3_rise_11 : decode cX3_rise 11 = .ok (.iload_n 1, 1) := by decide +kernel
theorem dX3_rise_12 : decode cX3_rise 12 = .ok (.putfield 27, 3) := by decide +kernel
theorem dX3_rise_15 : decode cX3_rise 15 = .ok (.aload_n 0, 1) := by decide +kernel
theorem dX3_rise_16 : decode cX3_rise 16 = .ok (.ldc 30, 2) := by decide +kernel
theorem dX3_rise_18 : decode cX3_rise 18 = .ok (.putfield 31, 3) := by decide +kernel
theorem dX3_rise_21 : decode cX3_rise 21 = .ok (.return_, 1) := by decide +kernel
theorem dX3_letOutBy_0 : decode cX3_letOutBy 0 = .ok (.aload_n 0, 1) := by decide +kernel
theorem dX3_letOutBy_1 : decode cX3_letOutBy 1 = .ok (.iconst 1, 1) := by decide +kernel
theorem dX3_letOutBy_2 : decode cX3_letOutBy 2 = .ok (.bipush 40, 2) := by decide +kernel
theorem dX3_letOutBy_4 : decode cX3_letOutBy 4 = .ok (.aload_n 0, 1) := by decide +kernel
theorem dX3_letOutBy_5 : decode cX3_letOutBy 5 = .ok (.getfield 27, 3) := by decide +kernel
theorem dX3_letOutBy_8 : decode cX3_letOutBy 8 = .ok (.iload_n 1, 1) := by decide +kernel
theorem dX3_letOutBy_9 : decode cX3_letOutBy 9 = .ok (.iadd, 1) := by decide +kernel
theorem dX3_letOutBy_10 : decode cX3_letOutBy 10 = .ok (.invokestatic 42, 3) := by decide +kernel
theorem dX3_letOutBy_13 : decode cX3_letOutBy 13 = .ok (.invokestatic 48, 3) := by decide +kernel
theorem dX3_letOutBy_16 : decode cX3_letOutBy 16 = .ok (.putfield 27, 3) := by decide +kernel
theorem dX3_letOutBy_19 : decode cX3_letOutBy 19 = .ok (.aload_n 0, 1) := by decide +kernel
theorem dX3_letOutBy_20 : decode cX3_letOutBy 20 = .ok (.aload_n 0, 1) := by decide +kernel
theorem dX3_letOutBy_21 : decode cX3_letOutBy 21 = .ok (.getfield 24, 3) := by decide +kernel
theorem dX3_letOutBy_24 : decode cX3_letOutBy 24 = .ok (.aload_n 0, 1) := by decide +kernel
theorem dX3_letOutBy_25 : decode cX3_letOutBy 25 = .ok (.getfield 27, 3) := by decide +kernel
theorem dX3_letOutBy_28 : decode cX3_letOutBy 28 = .ok (.invokestatic 42, 3) := by decide +kernel
theorem dX3_letOutBy_31 : decode cX3_letOutBy 31 = .ok (.putfield 24, 3) := by decide +kernel
theorem dX3_letOutBy_34 : decode cX3_letOutBy 34 = .ok (.return_, 1) := by decide +kernel
theorem dX3_liftIn_0 : decode cX3_liftIn 0 = .ok (.aload_n 0, 1) := by decide +kernel
theorem dX3_liftIn_1 : decode cX3_liftIn 1 = .ok (.getfield 15, 3) := by decide +kernel
theorem dX3_liftIn_4 : decode cX3_liftIn 4 = .ok (.iload_n 1, 1) := by decide +kernel
theorem dX3_liftIn_5 : decode cX3_liftIn 5 = .ok (.imul, 1) := by decide +kernel
theorem dX3_liftIn_6 : decode cX3_liftIn 6 = .ok (.istore_n 3, 1) := by decide +kernel
theorem dX3_liftIn_7 : decode cX3_liftIn 7 = .ok (.iconst 4, 1) := by decide +kernel
theorem dX3_liftIn_8 : decode cX3_liftIn 8 = .ok (.iload_n 1, 1) := by decide +kernel
theorem dX3_liftIn_9 : decode cX3_liftIn 9 = .ok (.imul, 1) := by decide +kernel
theorem dX3_liftIn_10 : decode cX3_liftIn 10 = .ok (.istore 4, 2) := by decide +kernel
theorem dX3_liftIn_12 : decode cX3_liftIn 12 = .ok (.aload_n 0, 1) := by decide +kernel
theorem dX3_liftIn_13 : decode cX3_liftIn 13 = .ok (.getfield 9, 3) := by decide +kernel
theorem dX3_liftIn_16 : decode cX3_liftIn 16 = .ok (.tableswitch 86 2 5 #[32, 49, 61, 64], 32) := by decide +kernel
theorem dX3_liftIn_48 : decode cX3_liftIn 48 = .ok (.aload_n 0, 1) := by decide +kernel
theorem dX3_liftIn_49 : decode cX3_liftIn 49 = .ok (.getfield 24, 3) := by decide +kernel
theorem dX3_liftIn_52 : decode cX3_liftIn 52 = .ok (.bipush 20, 2) := by decide +kernel
theorem dX3_liftIn_54 : decode cX3_liftIn 54 = .ok (.if_icmp .lt 7, 3) := by decide +kernel
theorem dX3_liftIn_57 : decode cX3_liftIn 57 = .ok (.iload_n 3, 1) := by decide +kernel
theorem dX3_liftIn_58 : decode cX3_liftIn 58 = .ok (.goto 6, 3) := by decide +kernel
theorem dX3_liftIn_61 : decode cX3_liftIn 61 = .ok (.iload_n 3, 1) := by decide +kernel
theorem dX3_liftIn_62 : decode cX3_liftIn 62 = .ok (.iconst 2, 1) := by decide +kernel
theorem dX3_liftIn_63 : decode cX3_liftIn 63 = .ok (.idiv, 1) := by decide +kernel
theorem dX3_liftIn_64 : decode cX3_liftIn 64 = .ok (.ireturn, 1) := by decide +kernel
theorem dX3_liftIn_65 : decode cX3_liftIn 65 = .ok (.iload_n 2, 1) := by decide +kernel
theorem dX3_liftIn_66 : decode cX3_liftIn 66 = .ok (.ifCond .eq 9, 3) := by decide +kernel
theorem dX3_liftIn_69 : decode cX3_liftIn 69 = .ok (.iconst 2, 1) := by decide +kernel
theorem dX3_liftIn_70 : decode cX3_liftIn 70 = .ok (.iload_n 3, 1) := by decide +kernel
theorem dX3_liftIn_71 : decode cX3_liftIn 71 = .ok (.imul, 1) := by decide +kernel
theorem dX3_liftIn_72 : decode cX3_liftIn 72 = .ok (.goto 4, 3) := by decide +kernel
theorem dX3_liftIn_75 : decode cX3_liftIn 75 = .ok (.iload_n 3, 1) := by decide +kernel
theorem dX3_liftIn_76 : decode cX3_liftIn 76 = .ok (.ireturn, 1) := by decide +kernel
theorem dX3_liftIn_77 : decode cX3_liftIn 77 = .ok (.iload 4, 2) := by decide +kernel
theorem dX3_liftIn_79 : decode cX3_liftIn 79 = .ok (.ireturn, 1) := by decide +kernel
theorem dX3_liftIn_80 : decode cX3_liftIn 80 = .ok (.aload_n 0, 1) := by decide +kernel
theorem dX3_liftIn_81 : decode cX3_liftIn 81 = .ok (.getfield 24, 3) := by decide +kernel
theorem dX3_liftIn_84 : decode cX3_liftIn 84 = .ok (.bipush 30, 2) := by decide +kernel
theorem dX3_liftIn_86 : decode cX3_liftIn 86 = .ok (.if_icmp .lt 13, 3) := by decide +kernel
theorem dX3_liftIn_89 : decode cX3_liftIn 89 = .ok (.bipush 30, 2) := by decide +kernel
theorem dX3_liftIn_91 : decode cX3_liftIn 91 = .ok (.iload 4, 2) := by decide +kernel
theorem dX3_liftIn_93 : decode cX3_liftIn 93 = .ok (.invokestatic 48, 3) := by decide +kernel
theorem dX3_liftIn_96 : decode cX3_liftIn 96 = .ok (.goto 5, 3) := by decide +kernel
theorem dX3_liftIn_99 : decode cX3_liftIn 99 = .ok (.iload 4, 2) := by decide +kernel
theorem dX3_liftIn_101 : decode cX3_liftIn 101 = .ok (.ireturn, 1) := by decide +kernel
theorem dX3_liftIn_102 : decode cX3_liftIn 102 = .ok (.iload_n 3, 1) := by decide +kernel
theorem dX3_liftIn_103 : decode cX3_liftIn 103 = .ok (.ireturn, 1) := by decide +kernel
theorem dX3_snapsBy_0 : decode cX3_snapsBy 0 = .ok (.iload_n 1, 1) := by decide +kernel
theorem dX3_snapsBy_1 : decode cX3_snapsBy 1 = .ok (.ifCond .le 22, 3) := by decide +kernel
theorem dX3_snapsBy_4 : decode cX3_snapsBy 4 = .ok (.aload_n 0, 1) := by decide +kernel
theorem dX3_snapsBy_5 : decode cX3_snapsBy 5 = .ok (.getfield 24, 3) := by decide +kernel
theorem dX3_snapsBy_8 : decode cX3_snapsBy 8 = .ok (.iload_n 1, 1) := by decide +kernel
theorem dX3_snapsBy_9 : decode cX3_snapsBy 9 = .ok (.iadd, 1) := by decide +kernel
theorem dX3_snapsBy_10 : decode cX3_snapsBy 10 = .ok (.aload_n 0, 1) := by decide +kernel
theorem dX3_snapsBy_11 : decode cX3_snapsBy 11 = .ok (.getfield 27, 3) := by decide +kernel
theorem dX3_snapsBy_14 : decode cX3_snapsBy 14 = .ok (.iload_n 2, 1) := by decide +kernel
theorem dX3_snapsBy_15 : decode cX3_snapsBy 15 = .ok (.iadd, 1) := by decide +kernel
theorem dX3_snapsBy_16 : decode cX3_snapsBy 16 = .ok (.if_icmp .le 7, 3) := by decide +kernel
theorem dX3_snapsBy_19 : decode cX3_snapsBy 19 = .ok (.iconst 1, 1) := by decide +kernel
theorem dX3_snapsBy_20 : decode cX3_snapsBy 20 = .ok (.goto 4, 3) := by decide +kernel
theorem dX3_snapsBy_23 : decode cX3_snapsBy 23 = .ok (.iconst 0, 1) := by decide +kernel
theorem dX3_snapsBy_24 : decode cX3_snapsBy 24 = .ok (.ireturn, 1) := by decide +kernel
theorem dX3_moveBy_0 : decode cX3_moveBy 0 = .ok (.aload_n 0, 1) := by decide +kernel
theorem dX3_moveBy_1 : decode cX3_moveBy 1 = .ok (.iload_n 1, 1) := by decide +kernel
theorem dX3_moveBy_2 : decode cX3_moveBy 2 = .ok (.iload_n 2, 1) := by decide +kernel
theorem dX3_moveBy_3 : decode cX3_moveBy 3 = .ok (.invokevirtual 51, 3) := by decide +kernel
theorem dX3_moveBy_6 : decode cX3_moveBy 6 = .ok (.ifCond .eq 18, 3) := by decide +kernel
theorem dX3_moveBy_9 : decode cX3_moveBy 9 = .ok (.aload_n 0, 1) := by decide +kernel
theorem dX3_moveBy_10 : decode cX3_moveBy 10 = .ok (.iconst 2, 1) := by decide +kernel
theorem dX3_moveBy_11 : decode cX3_moveBy 11 = .ok (.iload_n 3, 1) := by decide +kernel
theorem dX3_moveBy_12 : decode cX3_moveBy 12 = .ok (.aload_n 0, 1) := by decide +kernel
theorem dX3_moveBy_13 : decode cX3_moveBy 13 = .ok (.getfield 27, 3) := by decide +kernel
theorem dX3_moveBy_16 : decode cX3_moveBy 16 = .ok (.iadd, 1) := by decide +kernel
theorem dX3_moveBy_17 : decode cX3_moveBy 17 = .ok (.bipush 16, 2) := by decide +kernel
theorem dX3_moveBy_19 : decode cX3_moveBy 19 = .ok (.irem, 1) := by decide +kernel
theorem dX3_moveBy_20 : decode cX3_moveBy 20 = .ok (.invokevirtual 55, 3) := by decide +kernel
theorem dX3_moveBy_23 : decode cX3_moveBy 23 = .ok (.return_, 1) := by decide +kernel
theorem dX3_moveBy_24 : decode cX3_moveBy 24 = .ok (.aload_n 0, 1) := by decide +kernel
theorem dX3_moveBy_25 : decode cX3_moveBy 25 = .ok (.aload_n 0, 1) := by decide +kernel
theorem dX3_moveBy_26 : decode cX3_moveBy 26 = .ok (.getfield 24, 3) := by decide +kernel
theorem dX3_moveBy_29 : decode cX3_moveBy 29 = .ok (.iload_n 1, 1) := by decide +kernel
theorem dX3_moveBy_30 : decode cX3_moveBy 30 = .ok (.iadd, 1) := by decide +kernel
theorem dX3_moveBy_31 : decode cX3_moveBy 31 = .ok (.aload_n 0, 1) := by decide +kernel
theorem dX3_moveBy_32 : decode cX3_moveBy 32 = .ok (.getfield 27, 3) := by decide +kernel
theorem dX3_moveBy_35 : decode cX3_moveBy 35 = .ok (.invokestatic 42, 3) := by decide +kernel
theorem dX3_moveBy_38 : decode cX3_moveBy 38 = .ok (.putfield 24, 3) := by decide +kernel
theorem dX3_moveBy_41 : decode cX3_moveBy 41 = .ok (.iload_n 1, 1) := by decide +kernel
theorem dX3_moveBy_42 : decode cX3_moveBy 42 = .ok (.ifCond .ge 17, 3) := by decide +kernel
theorem dX3_moveBy_45 : decode cX3_moveBy 45 = .ok (.aload_n 0, 1) := by decide +kernel
theorem dX3_moveBy_46 : decode cX3_moveBy 46 = .ok (.getfield 24, 3) := by decide +kernel
theorem dX3_moveBy_49 : decode cX3_moveBy 49 = .ok (.ifCond .gt 10, 3) := by decide +kernel
theorem dX3_moveBy_52 : decode cX3_moveBy 52 = .ok (.aload_n 0, 1) := by decide +kernel
theorem dX3_moveBy_53 : decode cX3_moveBy 53 = .ok (.iconst 0, 1) := by decide +kernel
theorem dX3_moveBy_54 : decode cX3_moveBy 54 = .ok (.ldc 30, 2) := by decide +kernel
theorem dX3_moveBy_56 : decode cX3_moveBy 56 = .ok (.invokevirtual 55, 3) := by decide +kernel
theorem dX3_moveBy_59 : decode cX3_moveBy 59 = .ok (.return_, 1) := by decide +kernel
theorem dX4_init_0 : decode cX4_init 0 = .ok (.aload_n 0, 1) := by decide +kernel
theorem dX4_init_1 : decode cX4_init 1 = .ok (.invokespecial 3, 3) := by decide +kernel
theorem dX4_init_4 : decode cX4_init 4 = .ok (.aload_n 0, 1) := by decide +kernel
theorem dX4_init_5 : decode cX4_init 5 = .ok (.iconst 1, 1) := by decide +kernel
theorem dX4_init_6 : decode cX4_init 6 = .ok (.putfield 9, 3) := by decide +kernel
theorem dX4_init_9 : decode cX4_init 9 = .ok (.aload_n 0, 1) := by decide +kernel
theorem dX4_init_10 : decode cX4_init 10 = .ok (.iconst 1, 1) := by decide +kernel
theorem dX4_init_11 : decode cX4_init 11 = .ok (.putfield 15, 3) := by decide +kernel
theorem dX4_init_14 : decode cX4_init 14 = .ok (.aload_n 0, 1) := by decide +kernel
theorem dX4_init_15 : decode cX4_init 15 = .ok (.iconst 0, 1) := by decide +kernel
theorem dX4_init_16 : decode cX4_init 16 = .ok (.putfield 18, 3) := by decide +kernel
theorem dX4_init_19 : decode cX4_init 19 = .ok (.aload_n 0, 1) := by decide +kernel
theorem dX4_init_20 : decode cX4_init 20 = .ok (.iconst 0, 1) := by decide +kernel
theorem dX4_init_21 : decode cX4_init 21 = .ok (.putfield 21, 3) := by decide +kernel
theorem dX4_init_24 : decode cX4_init 24 = .ok (.aload_n 0, 1) := by decide +kernel
theorem dX4_init_25 : decode cX4_init 25 = .ok (.iconst 0, 1) := by decide +kernel
theorem dX4_init_26 : decode cX4_init 26 = .ok (.putfield 24, 3) := by decide +kernel
theorem dX4_init_29 : decode cX4_init 29 = .ok (.aload_n 0, 1) := by decide +kernel
theorem dX4_init_30 : decode cX4_init 30 = .ok (.bipush 6, 2) := by decide +kernel
theorem dX4_init_32 : decode cX4_init 32 = .ok (.newarray .int, 2) := by decide +kernel
theorem dX4_init_34 : decode cX4_init 34 = .ok (.putfield 27, 3) := by decide +kernel
theorem dX4_init_37 : decode cX4_init 37 = .ok (.aload_n 0, 1) := by decide +kernel
theorem dX4_init_38 : decode cX4_init 38 = .ok (.bipush 6, 2) := by decide +kernel
theorem dX4_init_40 : decode cX4_init 40 = .ok (.anewarray 31, 3) := by decide +kernel
theorem dX4_init_43 : decode cX4_init 43 = .ok (.putfield 33, 3) := by decide +kernel
theorem dX4_init_46 : decode cX4_init 46 = .ok (.iconst 0, 1) := by decide +kernel
theorem dX4_init_47 : decode cX4_init 47 = .ok (.istore_n 1, 1) := by decide +kernel
theorem dX4_init_48 : decode cX4_init 48 = .ok (.iload_n 1, 1) := by decide +kernel
theorem dX4_init_49 : decode cX4_init 49 = .ok (.bipush 6, 2) := by decide +kernel
theorem dX4_init_51 : decode cX4_init 51 = .ok (.if_icmp .ge 22, 3) := by decide +kernel
theorem dX4_init_54 : decode cX4_init 54 = .ok (.aload_n 0, 1) := by decide +kernel
theorem dX4_init_55 : decode cX4_init 55 = .ok (.getfield 33, 3) := by decide +kernel
theorem dX4_init_58 : decode cX4_init 58 = .ok (.iload_n 1, 1) := by decide +kernel
theorem dX4_init_59 : decode cX4_init 59 = .ok (.new 31, 3) := by decide +kernel
theorem dX4_init_62 : decode cX4_init 62 = .ok (.dup, 1) := by decide +kernel
theorem dX4_init_63 : decode cX4_init 63 = .ok (.invokespecial 37, 3) := by decide +kernel
theorem dX4_init_66 : decode cX4_init 66 = .ok (.aastore, 1) := by decide +kernel
theorem dX4_init_67 : decode cX4_init 67 = .ok (.iinc 1 1, 3) := by decide +kernel
theorem dX4_init_70 : decode cX4_init 70 = .ok (.goto (-22), 3) := by decide +kernel
theorem dX4_init_73 : decode cX4_init 73 = .ok (.return_, 1) := by decide +kernel
theorem dX4_isRead_0 : decode cX4_isRead 0 = .ok (.aload_n 0, 1) := by decide +kernel
theorem dX4_isRead_1 : decode cX4_isRead 1 = .ok (.getfield 24, 3) := by decide +kernel
theorem dX4_isRead_4 : decode cX4_isRead 4 = .ok (.ifCond .le 7, 3) := by decide +kernel
theorem dX4_isRead_7 : decode cX4_isRead 7 = .ok (.iconst 1, 1) := by decide +kernel
theorem dX4_isRead_8 : decode cX4_isRead 8 = .ok (.goto 4, 3) := by decide +kernel
theorem dX4_isRead_11 : decode cX4_isRead 11 = .ok (.iconst 0, 1) := by decide +kernel
theorem dX4_isRead_12 : decode cX4_isRead 12 = .ok (.ireturn, 1) := by decide +kernel
theorem dX4_hasPaper_0 : decode cX4_hasPaper 0 = .ok (.iload_n 1, 1) := by decide +kernel
theorem dX4_hasPaper_1 : decode cX4_hasPaper 1 = .ok (.ifCond .lt 15, 3) := by decide +kernel
theorem dX4_hasPaper_4 : decode cX4_hasPaper 4 = .ok (.iload_n 1, 1) := by decide +kernel
theorem dX4_hasPaper_5 : decode cX4_hasPaper 5 = .ok (.aload_n 0, 1) := by decide +kernel
theorem dX4_hasPaper_6 : decode cX4_hasPaper 6 = .ok (.getfield 24, 3) := by decide +kernel
theorem dX4_hasPaper_9 : decode cX4_hasPaper 9 = .ok (.if_icmp .ge 7, 3) := by decide +kernel
theorem dX4_hasPaper_12 : decode cX4_hasPaper 12 = .ok (.iconst 1, 1) := by decide +kernel
theorem dX4_hasPaper_13 : decode cX4_hasPaper 13 = .ok (.goto 4, 3) := by decide +kernel
theorem dX4_hasPaper_16 : decode cX4_hasPaper 16 = .ok (.iconst 0, 1) := by decide +kernel
theorem dX4_hasPaper_17 : decode cX4_hasPaper 17 = .ok (.ireturn, 1) := by decide +kernel
theorem dX4_hasWind_0 : decode cX4_hasWind 0 = .ok (.iload_n 1, 1) := by decide +kernel
theorem dX4_hasWind_1 : decode cX4_hasWind 1 = .ok (.ifCond .lt 15, 3) := by decide +kernel
theorem dX4_hasWind_4 : decode cX4_hasWind 4 = .ok (.iload_n 1, 1) := by decide +kernel
theorem dX4_hasWind_5 : decode cX4_hasWind 5 = .ok (.aload_n 0, 1) := by decide +kernel
theorem dX4_hasWind_6 : decode cX4_hasWind 6 = .ok (.getfield 21, 3) := by decide +kernel
theorem dX4_hasWind_9 : decode cX4_hasWind 9 = .ok (.if_icmp .ge 7, 3) := by decide +kernel
theorem dX4_hasWind_12 : decode cX4_hasWind 12 = .ok (.iconst 1, 1) := by decide +kernel
theorem dX4_hasWind_13 : decode cX4_hasWind 13 = .ok (.goto 4, 3) := by decide +kernel
theorem dX4_hasWind_16 : decode cX4_hasWind 16 = .ok (.iconst 0, 1) := by decide +kernel
theorem dX4_hasWind_17 : decode cX4_hasWind 17 = .ok (.ireturn, 1) := by decide +kernel
theorem dX4_become_0 : decode cX4_become 0 = .ok (.aload_n 0, 1) := by decide +kernel
theorem dX4_become_1 : decode cX4_become 1 = .ok (.aload_n 1, 1) := by decide +kernel
theorem dX4_become_2 : decode cX4_become 2 = .ok (.getfield 9, 3) := by decide +kernel
theorem dX4_become_5 : decode cX4_become 5 = .ok (.putfield 9, 3) := by decide +kernel
theorem dX4_become_8 : decode cX4_become 8 = .ok (.aload_n 0, 1) := by decide +kernel
theorem dX4_become_9 : decode cX4_become 9 = .ok (.aload_n 1, 1) := by decide +kernel
theorem dX4_become_10 : decode cX4_become 10 = .ok (.getfield 15, 3) := by decide +kernel
theorem dX4_become_13 : decode cX4_become 13 = .ok (.putfield 15, 3) := by decide +kernel
theorem dX4_become_16 : decode cX4_become 16 = .ok (.aload_n 0, 1) := by decide +kernel
theorem dX4_become_17 : decode cX4_become 17 = .ok (.aload_n 1, 1) := by decide +kernel
theorem dX4_become_18 : decode cX4_become 18 = .ok (.getfield 18, 3) := by decide +kernel
theorem dX4_become_21 : decode cX4_become 21 = .ok (.putfield 18, 3) := by decide +kernel
theorem dX4_become_24 : decode cX4_become 24 = .ok (.aload_n 0, 1) := by decide +kernel
theorem dX4_become_25 : decode cX4_become 25 = .ok (.aload_n 1, 1) := by decide +kernel
theorem dX4_become_26 : decode cX4_become 26 = .ok (.getfield 21, 3) := by decide +kernel
theorem dX4_become_29 : decode cX4_become 29 = .ok (.putfield 21, 3) := by decide +kernel
theorem dX4_become_32 : decode cX4_become 32 = .ok (.aload_n 0, 1) := by decide +kernel
theorem dX4_become_33 : decode cX4_become 33 = .ok (.aload_n 1, 1) := by decide +kernel
theorem dX4_become_34 : decode cX4_become 34 = .ok (.getfield 24, 3) := by decide +kernel
theorem dX4_become_37 : decode cX4_become 37 = .ok (.putfield 24, 3) := by decide +kernel
theorem dX4_become_40 : decode cX4_become 40 = .ok (.iconst 0, 1) := by decide +kernel
theorem dX4_become_41 : decode cX4_become 41 = .ok (.istore_n 2, 1) := by decide +kernel
theorem dX4_become_42 : decode cX4_become 42 = .ok (.iload_n 2, 1) := by decide +kernel
theorem dX4_become_43 : decode cX4_become 43 = .ok (.aload_n 0, 1) := by decide +kernel
theorem dX4_become_44 : decode cX4_become 44 = .ok (.getfield 21, 3) := by decide +kernel
theorem dX4_become_47 : decode cX4_become 47 = .ok (.if_icmp .ge 21, 3) := by decide +kernel
theorem dX4_become_50 : decode cX4_become 50 = .ok (.aload_n 0, 1) := by decide +kernel
theorem dX4_become_51 : decode cX4_become 51 = .ok (.getfield 27, 3) := by decide +kernel
theorem dX4_become_54 : decode cX4_become 54 = .ok (.iload_n 2, 1) := by decide +kernel
theorem dX4_become_55 : decode cX4_become 55 = .ok (.aload_n 1, 1) := by decide +kernel
theorem dX4_become_56 : decode cX4_become 56 = .ok (.getfield 27, 3) := by decide +kernel
theorem dX4_become_59 : decode cX4_become 59 = .ok (.iload_n 2, 1) := by decide +kernel
theorem dX4_become_60 : decode cX4_become 60 = .ok (.iaload, 1) := by decide +kernel
theorem dX4_become_61 : decode cX4_become 61 = .ok (.iastore, 1) := by decide +kernel
theorem dX4_become_62 : decode cX4_become 62 = .ok (.iinc 2 1, 3) := by decide +kernel
theorem dX4_become_65 : decode cX4_become 65 = .ok (.goto (-23), 3) := by decide +kernel
theorem dX4_become_68 : decode cX4_become 68 = .ok (.iconst 0, 1) := by decide +kernel
theorem dX4_become_69 : decode cX4_become 69 = .ok (.istore_n 2, 1) := by decide +kernel
theorem dX4_become_70 : decode cX4_become 70 = .ok (.iload_n 2, 1) := by decide +kernel
theorem dX4_become_71 : decode cX4_become 71 = .ok (.aload_n 0, 1) := by decide +kernel
theorem dX4_become_72 : decode cX4_become 72 = .ok (.getfield 24, 3) := by decide +kernel
theorem dX4_become_75 : decode cX4_become 75 = .ok (.if_icmp .ge 24, 3) := by decide +kernel
theorem dX4_become_78 : decode cX4_become 78 = .ok (.aload_n 0, 1) := by decide +kernel
theorem dX4_become_79 : decode cX4_become 79 = .ok (.getfield 33, 3) := by decide +kernel
theorem dX4_become_82 : decode cX4_become 82 = .ok (.iload_n 2, 1) := by decide +kernel
theorem dX4_become_83 : decode cX4_become 83 = .ok (.aaload, 1) := by decide +kernel
theorem dX4_become_84 : decode cX4_become 84 = .ok (.aload_n 1, 1) := by decide +kernel
theorem dX4_become_85 : decode cX4_become 85 = .ok (.getfield 33, 3) := by decide +kernel
theorem dX4_become_88 : decode cX4_become 88 = .ok (.iload_n 2, 1) := by decide +kernel
theorem dX4_become_89 : decode cX4_become 89 = .ok (.aaload, 1) := by decide +kernel
theorem dX4_become_90 : decode cX4_become 90 = .ok (.invokevirtual 38, 3) := by decide +kernel
theorem dX4_become_93 : decode cX4_become 93 = .ok (.iinc 2 1, 3) := by decide +kernel
theorem dX4_become_96 : decode cX4_become 96 = .ok (.goto (-26), 3) := by decide +kernel
theorem dX4_become_99 : decode cX4_become 99 = .ok (.return_, 1) := by decide +kernel
theorem dX4_forceAfter_0 : decode cX4_forceAfter 0 = .ok (.aload_n 0, 1) := by decide +kernel
theorem dX4_forceAfter_1 : decode cX4_forceAfter 1 = .ok (.getfield 21, 3) := by decide +kernel
theorem dX4_forceAfter_4 : decode cX4_forceAfter 4 = .ok (.ifCond .le 22, 3) := by decide +kernel
theorem dX4_forceAfter_7 : decode cX4_forceAfter 7 = .ok (.aload_n 0, 1) := by decide +kernel
theorem dX4_forceAfter_8 : decode cX4_forceAfter 8 = .ok (.getfield 27, 3) := by decide +kernel
theorem dX4_forceAfter_11 : decode cX4_forceAfter 11 = .ok (.aload_n 0, 1) := by decide +kernel
theorem dX4_forceAfter_12 : decode cX4_forceAfter 12 = .ok (.getfield 18, 3) := by decide +kernel
theorem dX4_forceAfter_15 : decode cX4_forceAfter 15 = .ok (.iload_n 1, 1) := by decide +kernel
theorem dX4_forceAfter_16 : decode cX4_forceAfter 16 = .ok (.iadd, 1) := by decide +kernel
theorem dX4_forceAfter_17 : decode cX4_forceAfter 17 = .ok (.aload_n 0, 1) := by decide +kernel
theorem dX4_forceAfter_18 : decode cX4_forceAfter 18 = .ok (.getfield 21, 3) := by decide +kernel
theorem dX4_forceAfter_21 : decode cX4_forceAfter 21 = .ok (.irem, 1) := by decide +kernel
theorem dX4_forceAfter_22 : decode cX4_forceAfter 22 = .ok (.iaload, 1) := by decide +kernel
theorem dX4_forceAfter_23 : decode cX4_forceAfter 23 = .ok (.goto 4, 3) := by decide +kernel
theorem dX4_forceAfter_26 : decode cX4_forceAfter 26 = .ok (.iconst 0, 1) := by decide +kernel
theorem dX4_forceAfter_27 : decode cX4_forceAfter 27 = .ok (.ireturn, 1) := by decide +kernel
theorem dX4_riseOf_0 : decode cX4_riseOf 0 = .ok (.aload_n 0, 1) := by decide +kernel
theorem dX4_riseOf_1 : decode cX4_riseOf 1 = .ok (.getfield 33, 3) := by decide +kernel
theorem dX4_riseOf_4 : decode cX4_riseOf 4 = .ok (.iload_n 1, 1) := by decide +kernel
theorem dX4_riseOf_5 : decode cX4_riseOf 5 = .ok (.aaload, 1) := by decide +kernel
theorem dX4_riseOf_6 : decode cX4_riseOf 6 = .ok (.iload_n 2, 1) := by decide +kernel
theorem dX4_riseOf_7 : decode cX4_riseOf 7 = .ok (.aload_n 0, 1) := by decide +kernel
theorem dX4_riseOf_8 : decode cX4_riseOf 8 = .ok (.invokevirtual 42, 3) := by decide +kernel
theorem dX4_riseOf_11 : decode cX4_riseOf 11 = .ok (.invokevirtual 46, 3) := by decide +kernel
theorem dX4_riseOf_14 : decode cX4_riseOf 14 = .ok (.aload_n 0, 1) := by decide +kernel
theorem dX4_riseOf_15 : decode cX4_riseOf 15 = .ok (.getfield 33, 3) := by decide +kernel
theorem dX4_riseOf_18 : decode cX4_riseOf 18 = .ok (.iload_n 1, 1) := by decide +kernel
theorem dX4_riseOf_19 : decode cX4_riseOf 19 = .ok (.aaload, 1) := by decide +kernel
theorem dX4_riseOf_20 : decode cX4_riseOf 20 = .ok (.getfield 50, 3) := by decide +kernel
theorem dX4_riseOf_23 : decode cX4_riseOf 23 = .ok (.isub, 1) := by decide +kernel
theorem dX4_riseOf_24 : decode cX4_riseOf 24 = .ok (.ireturn, 1) := by decide +kernel
theorem dX4_isPaired_0 : decode cX4_isPaired 0 = .ok (.iconst 0, 1) := by decide +kernel
theorem dX4_isPaired_1 : decode cX4_isPaired 1 = .ok (.istore_n 1, 1) := by decide +kernel
theorem dX4_isPaired_2 : decode cX4_isPaired 2 = .ok (.iconst 0, 1) := by decide +kernel
theorem dX4_isPaired_3 : decode cX4_isPaired 3 = .ok (.istore_n 2, 1) := by decide +kernel
theorem dX4_isPaired_4 : decode cX4_isPaired 4 = .ok (.iload_n 2, 1) := by decide +kernel
theorem dX4_isPaired_5 : decode cX4_isPaired 5 = .ok (.aload_n 0, 1) := by decide +kernel
theorem dX4_isPaired_6 : decode cX4_isPaired 6 = .ok (.getfield 24, 3) := by decide +kernel
theorem dX4_isPaired_9 : decode cX4_isPaired 9 = .ok (.if_icmp .ge 37, 3) := by decide +kernel
theorem dX4_isPaired_12 : decode cX4_isPaired 12 = .ok (.aload_n 0, 1) := by decide +kernel
theorem dX4_isPaired_13 : decode cX4_isPaired 13 = .ok (.getfield 33, 3) := by decide +kernel
theorem dX4_isPaired_16 : decode cX4_isPaired 16 = .ok (.iload_n 2, 1) := by decide +kernel
theorem dX4_isPaired_17 : decode cX4_isPaired 17 = .ok (.aaload, 1) := by decide +kernel
theorem dX4_isPaired_18 : decode cX4_isPaired 18 = .ok (.invokevirtual 53, 3) := by decide +kernel
theorem dX4_isPaired_21 : decode cX4_isPaired 21 = .ok (.ifCond .eq 19, 3) := by decide +kernel
theorem dX4_isPaired_24 : decode cX4_isPaired 24 = .ok (.aload_n 0, 1) := by decide +kernel
theorem dX4_isPaired_25 : decode cX4_isPaired 25 = .ok (.getfield 33, 3) := by decide +kernel
theorem dX4_isPaired_28 : decode cX4_isPaired 28 = .ok (.iload_n 2, 1) := by decide +kernel
theorem dX4_isPaired_29 : decode cX4_isPaired 29 = .ok (.aaload, 1) := by decide +kernel
theorem dX4_isPaired_30 : decode cX4_isPaired 30 = .ok (.getfield 56, 3) := by decide +kernel
theorem dX4_isPaired_33 : decode cX4_isPaired 33 = .ok (.iconst 3, 1) := by decide +kernel
theorem dX4_isPaired_34 : decode cX4_isPaired 34 = .ok (.if_icmp .ne 6, 3) := by decide +kernel
theorem dX4_isPaired_37 : decode cX4_isPaired 37 = .ok (.iinc 1 1, 3) := by decide +kernel
theorem dX4_isPaired_40 : decode cX4_isPaired 40 = .ok (.iinc 2 1, 3) := by decide +kernel
theorem dX4_isPaired_43 : decode cX4_isPaired 43 = .ok (.goto (-39), 3) := by decide +kernel
theorem dX4_isPaired_46 : decode cX4_isPaired 46 = .ok (.iload_n 1, 1) := by decide +kernel
theorem dX4_isPaired_47 : decode cX4_isPaired 47 = .ok (.iconst 1, 1) := by decide +kernel
theorem dX4_isPaired_48 : decode cX4_isPaired 48 = .ok (.if_icmp .le 7, 3) := by decide +kernel
theorem dX4_isPaired_51 : decode cX4_isPaired 51 = .ok (.iconst 1, 1) := by decide +kernel
theorem dX4_isPaired_52 : decode cX4_isPaired 52 = .ok (.goto 4, 3) := by decide +kernel
theorem dX4_isPaired_55 : decode cX4_isPaired 55 = .ok (.iconst 0, 1) := by decide +kernel
theorem dX4_isPaired_56 : decode cX4_isPaired 56 = .ok (.ireturn, 1) := by decide +kernel
theorem dX4_passHourIn_0 : decode cX4_passHourIn 0 = .ok (.aload_n 0, 1) := by decide +kernel
theorem dX4_passHourIn_1 : decode cX4_passHourIn 1 = .ok (.invokevirtual 42, 3) := by decide +kernel
theorem dX4_passHourIn_4 : decode cX4_passHourIn 4 = .ok (.istore_n 2, 1) := by decide +kernel
theorem dX4_passHourIn_5 : decode cX4_passHourIn 5 = .ok (.iconst 0, 1) := by decide +kernel
theorem dX4_passHourIn_6 : decode cX4_passHourIn 6 = .ok (.istore_n 3, 1) := by decide +kernel
theorem dX4_passHourIn_7 : decode cX4_passHourIn 7 = .ok (.iload_n 3, 1) := by decide +kernel
theorem dX4_passHourIn_8 : decode cX4_passHourIn 8 = .ok (.aload_n 0, 1) := by decide +kernel
theorem dX4_passHourIn_9 : decode cX4_passHourIn 9 = .ok (.getfield 24, 3) := by decide +kernel
theorem dX4_passHourIn_12 : decode cX4_passHourIn 12 = .ok (.if_icmp .ge 58, 3) := by decide +kernel
theorem dX4_passHourIn_15 : decode cX4_passHourIn 15 = .ok (.aload_n 0, 1) := by decide +kernel
theorem dX4_passHourIn_16 : decode cX4_passHourIn 16 = .ok (.getfield 33, 3) := by decide +kernel
theorem dX4_passHourIn_19 : decode cX4_passHourIn 19 = .ok (.iload_n 3, 1) := by decide +kernel
theorem dX4_passHourIn_20 : decode cX4_passHourIn 20 = .ok (.aaload, 1) := by decide +kernel
theorem dX4_passHourIn_21 : decode cX4_passHourIn 21 = .ok (.invokevirtual 53, 3) := by decide +kernel
theorem dX4_passHourIn_24 : decode cX4_passHourIn 24 = .ok (.ifCond .eq 40, 3) := by decide +kernel
theorem dX4_passHourIn_27 : decode cX4_passHourIn 27 = .ok (.aload_n 0, 1) := by decide +kernel
theorem dX4_passHourIn_28 : decode cX4_passHourIn 28 = .ok (.getfield 33, 3) := by decide +kernel
theorem dX4_passHourIn_31 : decode cX4_passHourIn 31 = .ok (.iload_n 3, 1) := by decide +kernel
theorem dX4_passHourIn_32 : decode cX4_passHourIn 32 = .ok (.aaload, 1) := by decide +kernel
theorem dX4_passHourIn_33 : decode cX4_passHourIn 33 = .ok (.aload_n 0, 1) := by decide +kernel
theorem dX4_passHourIn_34 : decode cX4_passHourIn 34 = .ok (.getfield 33, 3) := by decide +kernel
theorem dX4_passHourIn_37 : decode cX4_passHourIn 37 = .ok (.iload_n 3, 1) := by decide +kernel
theorem dX4_passHourIn_38 : decode cX4_passHourIn 38 = .ok (.aaload, 1) := by decide +kernel
theorem dX4_passHourIn_39 : decode cX4_passHourIn 39 = .ok (.iload_n 1, 1) := by decide +kernel
theorem dX4_passHourIn_40 : decode cX4_passHourIn 40 = .ok (.iload_n 2, 1) := by decide +kernel
theorem dX4_passHourIn_41 : decode cX4_passHourIn 41 = .ok (.invokevirtual 46, 3) := by decide +kernel
theorem dX4_passHourIn_44 : decode cX4_passHourIn 44 = .ok (.aload_n 0, 1) := by decide +kernel
theorem dX4_passHourIn_45 : decode cX4_passHourIn 45 = .ok (.getfield 33, 3) := by decide +kernel
theorem dX4_passHourIn_48 : decode cX4_passHourIn 48 = .ok (.iload_n 3, 1) := by decide +kernel
theorem dX4_passHourIn_49 : decode cX4_passHourIn 49 = .ok (.aaload, 1) := by decide +kernel
theorem dX4_passHourIn_50 : decode cX4_passHourIn 50 = .ok (.getfield 50, 3) := by decide +kernel
theorem dX4_passHourIn_53 : decode cX4_passHourIn 53 = .ok (.isub, 1) := by decide +kernel
theorem dX4_passHourIn_54 : decode cX4_passHourIn 54 = .ok (.aload_n 0, 1) := by decide +kernel
theorem dX4_passHourIn_55 : decode cX4_passHourIn 55 = .ok (.getfield 15, 3) := by decide +kernel
theorem dX4_passHourIn_58 : decode cX4_passHourIn 58 = .ok (.iload_n 3, 1) := by decide +kernel
theorem dX4_passHourIn_59 : decode cX4_passHourIn 59 = .ok (.iload_n 1, 1) := by decide +kernel
theorem dX4_passHourIn_60 : decode cX4_passHourIn 60 = .ok (.iadd, 1) := by decide +kernel
theorem dX4_passHourIn_61 : decode cX4_passHourIn 61 = .ok (.invokevirtual 59, 3) := by decide +kernel
theorem dX4_passHourIn_64 : decode cX4_passHourIn 64 = .ok (.iinc 3 1, 3) := by decide +kernel
theorem dX4_passHourIn_67 : decode cX4_passHourIn 67 = .ok (.goto (-60), 3) := by decide +kernel
theorem dX4_passHourIn_70 : decode cX4_passHourIn 70 = .ok (.aload_n 0, 1) := by decide +kernel
theorem dX4_passHourIn_71 : decode cX4_passHourIn 71 = .ok (.dup, 1) := by decide +kernel
theorem dX4_passHourIn_72 : decode cX4_passHourIn 72 = .ok (.getfield 18, 3) := by decide +kernel
theorem dX4_passHourIn_75 : decode cX4_passHourIn 75 = .ok (.iconst 1, 1) := by decide +kernel
theorem dX4_passHourIn_76 : decode cX4_passHourIn 76 = .ok (.iadd, 1) := by decide +kernel
theorem dX4_passHourIn_77 : decode cX4_passHourIn 77 = .ok (.putfield 18, 3) := by decide +kernel
theorem dX4_passHourIn_80 : decode cX4_passHourIn 80 = .ok (.return_, 1) := by decide +kernel
theorem dX4_isPolicy_0 : decode cX4_isPolicy 0 = .ok (.aload_n 0, 1) := by decide +kernel
theorem dX4_isPolicy_1 : decode cX4_isPolicy 1 = .ok (.getfield 33, 3) := by decide +kernel
theorem dX4_isPolicy_4 : decode cX4_isPolicy 4 = .ok (.iload_n 1, 1) := by decide +kernel
theorem dX4_isPolicy_5 : decode cX4_isPolicy 5 = .ok (.aaload, 1) := by decide +kernel
theorem dX4_isPolicy_6 : decode cX4_isPolicy 6 = .ok (.invokevirtual 53, 3) := by decide +kernel
theorem dX4_isPolicy_9 : decode cX4_isPolicy 9 = .ok (.ifCond .eq 23, 3) := by decide +kernel
theorem dX4_isPolicy_12 : decode cX4_isPolicy 12 = .ok (.aload_n 0, 1) := by decide +kernel
theorem dX4_isPolicy_13 : decode cX4_isPolicy 13 = .ok (.getfield 33, 3) := by decide +kernel
theorem dX4_isPolicy_16 : decode cX4_isPolicy 16 = .ok (.iload_n 1, 1) := by decide +kernel
theorem dX4_isPolicy_17 : decode cX4_isPolicy 17 = .ok (.aaload, 1) := by decide +kernel
theorem dX4_isPolicy_18 : decode cX4_isPolicy 18 = .ok (.getfield 63, 3) := by decide +kernel
theorem dX4_isPolicy_21 : decode cX4_isPolicy 21 = .ok (.aload_n 0, 1) := by decide +kernel
theorem dX4_isPolicy_22 : decode cX4_isPolicy 22 = .ok (.getfield 9, 3) := by decide +kernel
theorem dX4_isPolicy_25 : decode cX4_isPolicy 25 = .ok (.if_icmp .lt 7, 3) := by decide +kernel
theorem dX4_isPolicy_28 : decode cX4_isPolicy 28 = .ok (.iconst 1, 1) := by decide +kernel
theorem dX4_isPolicy_29 : decode cX4_isPolicy 29 = .ok (.goto 4, 3) := by decide +kernel
theorem dX4_isPolicy_32 : decode cX4_isPolicy 32 = .ok (.iconst 0, 1) := by decide +kernel
theorem dX4_isPolicy_33 : decode cX4_isPolicy 33 = .ok (.ireturn, 1) := by decide +kernel
theorem dX4_policyBits_0 : decode cX4_policyBits 0 = .ok (.iconst 0, 1) := by decide +kernel
theorem dX4_policyBits_1 : decode cX4_policyBits 1 = .ok (.istore_n 1, 1) := by decide +kernel
theorem dX4_policyBits_2 : decode cX4_policyBits 2 = .ok (.iconst 0, 1) := by decide +kernel
theorem dX4_policyBits_3 : decode cX4_policyBits 3 = .ok (.istore_n 2, 1) := by decide +kernel
theorem dX4_policyBits_4 : decode cX4_policyBits 4 = .ok (.iload_n 2, 1) := by decide +kernel
theorem dX4_policyBits_5 : decode cX4_policyBits 5 = .ok (.aload_n 0, 1) := by decide +kernel
theorem dX4_policyBits_6 : decode cX4_policyBits 6 = .ok (.getfield 24, 3) := by decide +kernel
theorem dX4_policyBits_9 : decode cX4_policyBits 9 = .ok (.if_icmp .ge 23, 3) := by decide +kernel
theorem dX4_policyBits_12 : decode cX4_policyBits 12 = .ok (.aload_n 0, 1) := by decide +kernel
theorem dX4_policyBits_13 : decode cX4_policyBits 13 = .ok (.iload_n 2, 1) := by decide +kernel
theorem dX4_policyBits_14 : decode cX4_policyBits 14 = .ok (.invokevirtual 66, 3) := by decide +kernel
theorem dX4_policyBits_17 : decode cX4_policyBits 17 = .ok (.ifCond .eq 9, 3) := by decide +kernel
theorem dX4_policyBits_20 : decode cX4_policyBits 20 = .ok (.iload_n 1, 1) := by decide +kernel
theorem dX4_policyBits_21 : decode cX4_policyBits 21 = .ok (.iconst 1, 1) := by decide +kernel
theorem dX4_policyBits_22 : decode cX4_policyBits 22 = .ok (.iload_n 2, 1) := by decide +kernel
theorem dX4_policyBits_23 : decode cX4_policyBits 23 = .ok (.ishl, 1) := by decide +kernel
theorem dX4_policyBits_24 : decode cX4_policyBits 24 = .ok (.ior, 1) := by decide +kernel
theorem dX4_policyBits_25 : decode cX4_policyBits 25 = .ok (.istore_n 1, 1) := by decide +kernel
theorem dX4_policyBits_26 : decode cX4_policyBits 26 = .ok (.iinc 2 1, 3) := by decide +kernel
theorem dX4_policyBits_29 : decode cX4_policyBits 29 = .ok (.goto (-25), 3) := by decide +kernel
theorem dX4_policyBits_32 : decode cX4_policyBits 32 = .ok (.iload_n 1, 1) := by decide +kernel
theorem dX4_policyBits_33 : decode cX4_policyBits 33 = .ok (.ireturn, 1) := by decide +kernel
theorem dX4_bitsOf_0 : decode cX4_bitsOf 0 = .ok (.iconst 0, 1) := by decide +kernel
theorem dX4_bitsOf_1 : decode cX4_bitsOf 1 = .ok (.istore_n 2, 1) := by decide +kernel
theorem dX4_bitsOf_2 : decode cX4_bitsOf 2 = .ok (.iconst 0, 1) := by decide +kernel
theorem dX4_bitsOf_3 : decode cX4_bitsOf 3 = .ok (.istore_n 3, 1) := by decide +kernel
theorem dX4_bitsOf_4 : decode cX4_bitsOf 4 = .ok (.iload_n 3, 1) := by decide +kernel
theorem dX4_bitsOf_5 : decode cX4_bitsOf 5 = .ok (.aload_n 0, 1) := by decide +kernel
theorem dX4_bitsOf_6 : decode cX4_bitsOf 6 = .ok (.getfield 24, 3) := by decide +kernel
theorem dX4_bitsOf_9 : decode cX4_bitsOf 9 = .ok (.if_icmp .ge 28, 3) := by decide +kernel
theorem dX4_bitsOf_12 : decode cX4_bitsOf 12 = .ok (.aload_n 0, 1) := by decide +kernel
theorem dX4_bitsOf_13 : decode cX4_bitsOf 13 = .ok (.getfield 33, 3) := by decide +kernel
theorem dX4_bitsOf_16 : decode cX4_bitsOf 16 = .ok (.iload_n 3, 1) := by decide +kernel
theorem dX4_bitsOf_17 : decode cX4_bitsOf 17 = .ok (.aaload, 1) := by decide +kernel
theorem dX4_bitsOf_18 : decode cX4_bitsOf 18 = .ok (.getfield 70, 3) := by decide +kernel
theorem dX4_bitsOf_21 : decode cX4_bitsOf 21 = .ok (.iload_n 1, 1) := by decide +kernel
theorem dX4_bitsOf_22 : decode cX4_bitsOf 22 = .ok (.if_icmp .ne 9, 3) := by decide +kernel
theorem dX4_bitsOf_25 : decode cX4_bitsOf 25 = .ok (.iload_n 2, 1) := by decide +kernel
theorem dX4_bitsOf_26 : decode cX4_bitsOf 26 = .ok (.iconst 1, 1) := by decide +kernel
theorem dX4_bitsOf_27 : decode cX4_bitsOf 27 = .ok (.iload_n 3, 1) := by decide +kernel
theorem dX4_bitsOf_28 : decode cX4_bitsOf 28 = .ok (.ishl, 1) := by decide +kernel
theorem dX4_bitsOf_29 : decode cX4_bitsOf 29 = .ok (.ior, 1) := by decide +kernel
theorem dX4_bitsOf_30 : decode cX4_bitsOf 30 = .ok (.istore_n 2, 1) := by decide +kernel
theorem dX4_bitsOf_31 : decode cX4_bitsOf 31 = .ok (.iinc 3 1, 3) := by decide +kernel
theorem dX4_bitsOf_34 : decode cX4_bitsOf 34 = .ok (.goto (-30), 3) := by decide +kernel
theorem dX4_bitsOf_37 : decode cX4_bitsOf 37 = .ok (.iload_n 2, 1) := by decide +kernel
theorem dX4_bitsOf_38 : decode cX4_bitsOf 38 = .ok (.ireturn, 1) := by decide +kernel
theorem dX4_sendAll_0 : decode cX4_sendAll 0 = .ok (.iconst 0, 1) := by decide +kernel
theorem dX4_sendAll_1 : decode cX4_sendAll 1 = .ok (.istore_n 3, 1) := by decide +kernel
theorem dX4_sendAll_2 : decode cX4_sendAll 2 = .ok (.iload_n 3, 1) := by decide +kernel
theorem dX4_sendAll_3 : decode cX4_sendAll 3 = .ok (.aload_n 0, 1) := by decide +kernel
theorem dX4_sendAll_4 : decode cX4_sendAll 4 = .ok (.getfield 24, 3) := by decide +kernel
theorem dX4_sendAll_7 : decode cX4_sendAll 7 = .ok (.if_icmp .ge 28, 3) := by decide +kernel
theorem dX4_sendAll_10 : decode cX4_sendAll 10 = .ok (.iload_n 1, 1) := by decide +kernel
theorem dX4_sendAll_11 : decode cX4_sendAll 11 = .ok (.iload_n 3, 1) := by decide +kernel
theorem dX4_sendAll_12 : decode cX4_sendAll 12 = .ok (.ishr, 1) := by decide +kernel
theorem dX4_sendAll_13 : decode cX4_sendAll 13 = .ok (.iconst 1, 1) := by decide +kernel
theorem dX4_sendAll_14 : decode cX4_sendAll 14 = .ok (.iand, 1) := by decide +kernel
theorem dX4_sendAll_15 : decode cX4_sendAll 15 = .ok (.iconst 1, 1) := by decide +kernel
theorem dX4_sendAll_16 : decode cX4_sendAll 16 = .ok (.if_icmp .ne 13, 3) := by decide +kernel
theorem dX4_sendAll_19 : decode cX4_sendAll 19 = .ok (.aload_n 0, 1) := by decide +kernel
theorem dX4_sendAll_20 : decode cX4_sendAll 20 = .ok (.getfield 33, 3) := by decide +kernel
theorem dX4_sendAll_23 : decode cX4_sendAll 23 = .ok (.iload_n 3, 1) := by decide +kernel
theorem dX4_sendAll_24 : decode cX4_sendAll 24 = .ok (.aaload, 1) := by decide +kernel
theorem dX4_sendAll_25 : decode cX4_sendAll 25 = .ok (.iload_n 2, 1) := by decide +kernel
theorem dX4_sendAll_26 : decode cX4_sendAll 26 = .ok (.invokevirtual 73, 3) := by decide +kernel
theorem dX4_sendAll_29 : decode cX4_sendAll 29 = .ok (.iinc 3 1, 3) := by decide +kernel
theorem dX4_sendAll_32 : decode cX4_sendAll 32 = .ok (.goto (-30), 3) := by decide +kernel
theorem dX4_sendAll_35 : decode cX4_sendAll 35 = .ok (.return_, 1) := by decide +kernel
theorem dX4_quarrelCount_0 : decode cX4_quarrelCount 0 = .ok (.iconst 0, 1) := by decide +kernel
theorem dX4_quarrelCount_1 : decode cX4_quarrelCount 1 = .ok (.istore_n 1, 1) := by decide +kernel
theorem dX4_quarrelCount_2 : decode cX4_quarrelCount 2 = .ok (.iconst 0, 1) := by decide +kernel
theorem dX4_quarrelCount_3 : decode cX4_quarrelCount 3 = .ok (.istore_n 2, 1) := by decide +kernel
theorem dX4_quarrelCount_4 : decode cX4_quarrelCount 4 = .ok (.iload_n 2, 1) := by decide +kernel
theorem dX4_quarrelCount_5 : decode cX4_quarrelCount 5 = .ok (.aload_n 0, 1) := by decide +kernel
theorem dX4_quarrelCount_6 : decode cX4_quarrelCount 6 = .ok (.getfield 24, 3) := by decide +kernel
theorem dX4_quarrelCount_9 : decode cX4_quarrelCount 9 = .ok (.if_icmp .ge 39, 3) := by decide +kernel
theorem dX4_quarrelCount_12 : decode cX4_quarrelCount 12 = .ok (.iload_n 2, 1) := by decide +kernel
theorem dX4_quarrelCount_13 : decode cX4_quarrelCount 13 = .ok (.iconst 1, 1) := by decide +kernel
theorem dX4_quarrelCount_14 : decode cX4_quarrelCount 14 = .ok (.iadd, 1) := by decide +kernel
theorem dX4_quarrelCount_15 : decode cX4_quarrelCount 15 = .ok (.istore_n 3, 1) := by decide +kernel
theorem dX4_quarrelCount_16 : decode cX4_quarrelCount 16 = .ok (.iload_n 3, 1) := by decide +kernel
theorem dX4_quarrelCount_17 : decode cX4_quarrelCount 17 = .ok (.aload_n 0, 1) := by decide +kernel
theorem dX4_quarrelCount_18 : decode cX4_quarrelCount 18 = .ok (.getfield 24, 3) := by decide +kernel
theorem dX4_quarrelCount_21 : decode cX4_quarrelCount 21 = .ok (.if_icmp .ge 21, 3) := by decide +kernel
theorem dX4_quarrelCount_24 : decode cX4_quarrelCount 24 = .ok (.aload_n 0, 1) := by decide +kernel
theorem dX4_quarrelCount_25 : decode cX4_quarrelCount 25 = .ok (.iload_n 2, 1) := by decide +kernel
theorem dX4_quarrelCount_26 : decode cX4_quarrelCount 26 = .ok (.iload_n 3, 1) := by decide +kernel
theorem dX4_quarrelCount_27 : decode cX4_quarrelCount 27 = .ok (.invokevirtual 77, 3) := by decide +kernel
theorem dX4_quarrelCount_30 : decode cX4_quarrelCount 30 = .ok (.ifCond .eq 6, 3) := by decide +kernel
theorem dX4_quarrelCount_33 : decode cX4_quarrelCount 33 = .ok (.iinc 1 1, 3) := by decide +kernel
theorem dX4_quarrelCount_36 : decode cX4_quarrelCount 36 = .ok (.iinc 3 1, 3) := by decide +kernel
theorem dX4_quarrelCount_39 : decode cX4_quarrelCount 39 = .ok (.goto (-23), 3) := by decide +kernel
theorem dX4_quarrelCount_42 : decode cX4_quarrelCount 42 = .ok (.iinc 2 1, 3) := by decide +kernel
theorem dX4_quarrelCount_45 : decode cX4_quarrelCount 45 = .ok (.goto (-41), 3) := by decide +kernel
theorem dX4_quarrelCount_48 : decode cX4_quarrelCount 48 = .ok (.iload_n 1, 1) := by decide +kernel
theorem dX4_quarrelCount_49 : decode cX4_quarrelCount 49 = .ok (.ireturn, 1) := by decide +kernel
theorem dX4_firstQuarrel_0 : decode cX4_firstQuarrel 0 = .ok (.iconst 0, 1) := by decide +kernel
theorem dX4_firstQuarrel_1 : decode cX4_firstQuarrel 1 = .ok (.istore_n 1, 1) := by decide +kernel
theorem dX4_firstQuarrel_2 : decode cX4_firstQuarrel 2 = .ok (.iload_n 1, 1) := by decide +kernel
theorem dX4_firstQuarrel_3 : decode cX4_firstQuarrel 3 = .ok (.aload_n 0, 1) := by decide +kernel
theorem dX4_firstQuarrel_4 : decode cX4_firstQuarrel 4 = .ok (.getfield 24, 3) := by decide +kernel
theorem dX4_firstQuarrel_7 : decode cX4_firstQuarrel 7 = .ok (.if_icmp .ge 43, 3) := by decide +kernel
theorem dX4_firstQuarrel_10 : decode cX4_firstQuarrel 10 = .ok (.iload_n 1, 1) := by decide +kernel
theorem dX4_firstQuarrel_11 : decode cX4_firstQuarrel 11 = .ok (.iconst 1, 1) := by decide +kernel
theorem dX4_firstQuarrel_12 : decode cX4_firstQuarrel 12 = .ok (.iadd, 1) := by decide +kernel
theorem dX4_firstQuarrel_13 : decode cX4_firstQuarrel 13 = .ok (.istore_n 2, 1) := by decide +kernel
theorem dX4_firstQuarrel_14 : decode cX4_firstQuarrel 14 = .ok (.iload_n 2, 1) := by decide +kernel
theorem dX4_firstQuarrel_15 : decode cX4_firstQuarrel 15 = .ok (.aload_n 0, 1) := by decide +kernel
theorem dX4_firstQuarrel_16 : decode cX4_firstQuarrel 16 = .ok (.getfield 24, 3) := by decide +kernel
theorem dX4_firstQuarrel_19 : decode cX4_firstQuarrel 19 = .ok (.if_icmp .ge 25, 3) := by decide +kernel
theorem dX4_firstQuarrel_22 : decode cX4_firstQuarrel 22 = .ok (.aload_n 0, 1) := by decide +kernel
theorem dX4_firstQuarrel_23 : decode cX4_firstQuarrel 23 = .ok (.iload_n 1, 1) := by decide +kernel
theorem dX4_firstQuarrel_24 : decode cX4_firstQuarrel 24 = .ok (.iload_n 2, 1) := by decide +kernel
theorem dX4_firstQuarrel_25 : decode cX4_firstQuarrel 25 = .ok (.invokevirtual 77, 3) := by decide +kernel
theorem dX4_firstQuarrel_28 : decode cX4_firstQuarrel 28 = .ok (.ifCond .eq 10, 3) := by decide +kernel
theorem dX4_firstQuarrel_31 : decode cX4_firstQuarrel 31 = .ok (.bipush 10, 2) := by decide +kernel
theorem dX4_firstQuarrel_33 : decode cX4_firstQuarrel 33 = .ok (.iload_n 1, 1) := by decide +kernel
theorem dX4_firstQuarrel_34 : decode cX4_firstQuarrel 34 = .ok (.imul, 1) := by decide +kernel
theorem dX4_firstQuarrel_35 : decode cX4_firstQuarrel 35 = .ok (.iload_n 2, 1) := by decide +kernel
theorem dX4_firstQuarrel_36 : decode cX4_firstQuarrel 36 = .ok (.iadd, 1) := by decide +kernel
theorem dX4_firstQuarrel_37 : decode cX4_firstQuarrel 37 = .ok (.ireturn, 1) := by decide +kernel
theorem dX4_firstQuarrel_38 : decode cX4_firstQuarrel 38 = .ok (.iinc 2 1, 3) := by decide +kernel
theorem dX4_firstQuarrel_41 : decode cX4_firstQuarrel 41 = .ok (.goto (-27), 3) := by decide +kernel
theorem dX4_firstQuarrel_44 : decode cX4_firstQuarrel 44 = .ok (.iinc 1 1, 3) := by decide +kernel
theorem dX4_firstQuarrel_47 : decode cX4_firstQuarrel 47 = .ok (.goto (-45), 3) := by decide +kernel
theorem dX4_firstQuarrel_50 : decode cX4_firstQuarrel 50 = .ok (.ldc 81, 2) := by decide +kernel
theorem dX4_firstQuarrel_52 : decode cX4_firstQuarrel 52 = .ok (.ireturn, 1) := by decide +kernel
theorem dX4_quarrel_0 : decode cX4_quarrel 0 = .ok (.aload_n 0, 1) := by decide +kernel
theorem dX4_quarrel_1 : decode cX4_quarrel 1 = .ok (.getfield 33, 3) := by decide +kernel
theorem dX4_quarrel_4 : decode cX4_quarrel 4 = .ok (.iload_n 1, 1) := by decide +kernel
theorem dX4_quarrel_5 : decode cX4_quarrel 5 = .ok (.aaload, 1) := by decide +kernel
theorem dX4_quarrel_6 : decode cX4_quarrel 6 = .ok (.getfield 70, 3) := by decide +kernel
theorem dX4_quarrel_9 : decode cX4_quarrel 9 = .ok (.iconst 2, 1) := by decide +kernel
theorem dX4_quarrel_10 : decode cX4_quarrel 10 = .ok (.if_icmp .ne 41, 3) := by decide +kernel
theorem dX4_quarrel_13 : decode cX4_quarrel 13 = .ok (.aload_n 0, 1) := by decide +kernel
theorem dX4_quarrel_14 : decode cX4_quarrel 14 = .ok (.getfield 33, 3) := by decide +kernel
theorem dX4_quarrel_17 : decode cX4_quarrel 17 = .ok (.iload_n 2, 1) := by decide +kernel
theorem dX4_quarrel_18 : decode cX4_quarrel 18 = .ok (.aaload, 1) := by decide +kernel
theorem dX4_quarrel_19 : decode cX4_quarrel 19 = .ok (.getfield 70, 3) := by decide +kernel
theorem dX4_quarrel_22 : decode cX4_quarrel 22 = .ok (.iconst 2, 1) := by decide +kernel
theorem dX4_quarrel_23 : decode cX4_quarrel 23 = .ok (.if_icmp .ne 28, 3) := by decide +kernel
theorem dX4_quarrel_26 : decode cX4_quarrel 26 = .ok (.aload_n 0, 1) := by decide +kernel
theorem dX4_quarrel_27 : decode cX4_quarrel 27 = .ok (.getfield 33, 3) := by decide +kernel
theorem dX4_quarrel_30 : decode cX4_quarrel 30 = .ok (.iload_n 1, 1) := by decide +kernel
theorem dX4_quarrel_31 : decode cX4_quarrel 31 = .ok (.aaload, 1) := by decide +kernel
theorem dX4_quarrel_32 : decode cX4_quarrel 32 = .ok (.getfield 82, 3) := by decide +kernel
theorem dX4_quarrel_35 : decode cX4_quarrel 35 = .ok (.aload_n 0, 1) := by decide +kernel
theorem dX4_quarrel_36 : decode cX4_quarrel 36 = .ok (.getfield 33, 3) := by decide +kernel
theorem dX4_quarrel_39 : decode cX4_quarrel 39 = .ok (.iload_n 2, 1) := by decide +kernel
theorem dX4_quarrel_40 : decode cX4_quarrel 40 = .ok (.aaload, 1) := by decide +kernel
theorem dX4_quarrel_41 : decode cX4_quarrel 41 = .ok (.getfield 82, 3) := by decide +kernel
theorem dX4_quarrel_44 : decode cX4_quarrel 44 = .ok (.if_icmp .ne 7, 3) := by decide +kernel
theorem dX4_quarrel_47 : decode cX4_quarrel 47 = .ok (.iconst 1, 1) := by decide +kernel
theorem dX4_quarrel_48 : decode cX4_quarrel 48 = .ok (.goto 4, 3) := by decide +kernel
theorem dX4_quarrel_51 : decode cX4_quarrel 51 = .ok (.iconst 0, 1) := by decide +kernel
theorem dX4_quarrel_52 : decode cX4_quarrel 52 = .ok (.ireturn, 1) := by decide +kernel
theorem dX5_init_0 : decode cX5_init 0 = .ok (.aload_n 0, 1) := by decide +kernel
theorem dX5_init_1 : decode cX5_init 1 = .ok (.invokespecial 3, 3) := by decide +kernel
theorem dX5_init_4 : decode cX5_init 4 = .ok (.aload_n 0, 1) := by decide +kernel
theorem dX5_init_5 : decode cX5_init 5 = .ok (.iconst (-1), 1) := by decide +kernel
theorem dX5_init_6 : decode cX5_init 6 = .ok (.putfield 11, 3) := by decide +kernel
theorem dX5_init_9 : decode cX5_init 9 = .ok (.aload_n 0, 1) := by decide +kernel
theorem dX5_init_10 : decode cX5_init 10 = .ok (.iconst 0, 1) := by decide +kernel
theorem dX5_init_11 : decode cX5_init 11 = .ok (.putfield 15, 3) := by decide +kernel
theorem dX5_init_14 : decode cX5_init 14 = .ok (.aload_n 0, 1) := by decide +kernel
theorem dX5_init_15 : decode cX5_init 15 = .ok (.bipush 40, 2) := by decide +kernel
theorem dX5_init_17 : decode cX5_init 17 = .ok (.newarray .int, 2) := by decide +kernel
theorem dX5_init_19 : decode cX5_init 19 = .ok (.putfield 18, 3) := by decide +kernel
theorem dX5_init_22 : decode cX5_init 22 = .ok (.return_, 1) := by decide +kernel
theorem dX5_isMissing_0 : decode cX5_isMissing 0 = .ok (.aload_n 0, 1) := by decide +kernel
theorem dX5_isMissing_1 : decode cX5_isMissing 1 = .ok (.getfield 11, 3) := by decide +kernel
theorem dX5_isMissing_4 : decode cX5_isMissing 4 = .ok (.iconst (-1), 1) := by decide +kernel
theorem dX5_isMissing_5 : decode cX5_isMissing 5 = .ok (.if_icmp .ne 7, 3) := by decide +kernel
theorem dX5_isMissing_8 : decode cX5_isMissing 8 = .ok (.iconst 1, 1) := by decide +kernel
theorem dX5_isMissing_9 : decode cX5_isMissing 9 = .ok (.goto 4, 3) := by decide +kernel
theorem dX5_isMissing_12 : decode cX5_isMissing 12 = .ok (.iconst 0, 1) := by decide +kernel
theorem dX5_isMissing_13 : decode cX5_isMissing 13 = .ok (.ireturn, 1) := by decide +kernel
theorem dX5_begin_0 : decode cX5_begin 0 = .ok (.aload_n 0, 1) := by decide +kernel
theorem dX5_begin_1 : decode cX5_begin 1 = .ok (.iload_n 1, 1) := by decide +kernel
theorem dX5_begin_2 : decode cX5_begin 2 = .ok (.putfield 11, 3) := by decide +kernel
theorem dX5_begin_5 : decode cX5_begin 5 = .ok (.aload_n 0, 1) := by decide +kernel
theorem dX5_begin_6 : decode cX5_begin 6 = .ok (.iload_n 2, 1) := by decide +kernel
theorem dX5_begin_7 : decode cX5_begin 7 = .ok (.putfield 15, 3) := by decide +kernel
theorem dX5_begin_10 : decode cX5_begin 10 = .ok (.iconst 0, 1) := by decide +kernel
theorem dX5_begin_11 : decode cX5_begin 11 = .ok (.istore_n 3, 1) := by decide +kernel
theorem dX5_begin_12 : decode cX5_begin 12 = .ok (.iload_n 3, 1) := by decide +kernel
theorem dX5_begin_13 : decode cX5_begin 13 = .ok (.bipush 40, 2) := by decide +kernel
theorem dX5_begin_15 : decode cX5_begin 15 = .ok (.if_icmp .ge 16, 3) := by decide +kernel
theorem dX5_begin_18 : decode cX5_begin 18 = .ok (.aload_n 0, 1) := by decide +kernel
theorem dX5_begin_19 : decode cX5_begin 19 = .ok (.getfield 18, 3) := by decide +kernel
theorem dX5_begin_22 : decode cX5_begin 22 = .ok (.iload_n 3, 1) := by decide +kernel
theorem dX5_begin_23 : decode cX5_begin 23 = .ok (.iconst 0, 1) := by decide +kernel
theorem dX5_begin_24 : decode cX5_begin 24 = .ok (.iastore, 1) := by decide +kernel
theorem dX5_begin_25 : decode cX5_begin 25 = .ok (.iinc 3 1, 3) := by decide +kernel
theorem dX5_begin_28 : decode cX5_begin 28 = .ok (.goto (-16), 3) := by decide +kernel
theorem dX5_begin_31 : decode cX5_begin 31 = .ok (.return_, 1) := by decide +kernel
theorem dX5_end_0 : decode cX5_end 0 = .ok (.aload_n 0, 1) := by decide +kernel
theorem dX5_end_1 : decode cX5_end 1 = .ok (.iconst (-1), 1) := by decide +kernel
theorem dX5_end_2 : decode cX5_end 2 = .ok (.putfield 11, 3) := by decide +kernel
theorem dX5_end_5 : decode cX5_end 5 = .ok (.aload_n 0, 1) := by decide +kernel
theorem dX5_end_6 : decode cX5_end 6 = .ok (.iconst 0, 1) := by decide +kernel
theorem dX5_end_7 : decode cX5_end 7 = .ok (.putfield 15, 3) := by decide +kernel
theorem dX5_end_10 : decode cX5_end 10 = .ok (.return_, 1) := by decide +kernel
theorem dX5_hasPlaces_0 : decode cX5_hasPlaces 0 = .ok (.iload_n 1, 1) := by decide +kernel
theorem dX5_hasPlaces_1 : decode cX5_hasPlaces 1 = .ok (.ifCond .lt 21, 3) := by decide +kernel
theorem dX5_hasPlaces_4 : decode cX5_hasPlaces 4 = .ok (.iload_n 2, 1) := by decide +kernel
theorem dX5_hasPlaces_5 : decode cX5_hasPlaces 5 = .ok (.ifCond .lt 17, 3) := by decide +kernel
theorem dX5_hasPlaces_8 : decode cX5_hasPlaces 8 = .ok (.iload_n 1, 1) := by decide +kernel
theorem dX5_hasPlaces_9 : decode cX5_hasPlaces 9 = .ok (.aload_n 0, 1) := by decide +kernel
theorem dX5_hasPlaces_10 : decode cX5_hasPlaces 10 = .ok (.getfield 15, 3) := by decide +kernel
theorem dX5_hasPlaces_13 : decode cX5_hasPlaces 13 = .ok (.iload_n 2, 1) := by decide +kernel
theorem dX5_hasPlaces_14 : decode cX5_hasPlaces 14 = .ok (.isub, 1) := by decide +kernel
theorem dX5_hasPlaces_15 : decode cX5_hasPlaces 15 = .ok (.if_icmp .gt 7, 3) := by decide +kernel
theorem dX5_hasPlaces_18 : decode cX5_hasPlaces 18 = .ok (.iconst 1, 1) := by decide +kernel
theorem dX5_hasPlaces_19 : decode cX5_hasPlaces 19 = .ok (.goto 4, 3) := by decide +kernel
theorem dX5_hasPlaces_22 : decode cX5_hasPlaces 22 = .ok (.iconst 0, 1) := by decide +kernel
theorem dX5_hasPlaces_23 : decode cX5_hasPlaces 23 = .ok (.ireturn, 1) := by decide +kernel
theorem dX5_put_0 : decode cX5_put 0 = .ok (.aload_n 0, 1) := by decide +kernel
theorem dX5_put_1 : decode cX5_put 1 = .ok (.getfield 18, 3) := by decide +kernel
theorem dX5_put_4 : decode cX5_put 4 = .ok (.iload_n 1, 1) := by decide +kernel
theorem dX5_put_5 : decode cX5_put 5 = .ok (.aload_n 0, 1) := by decide +kernel
theorem dX5_put_6 : decode cX5_put 6 = .ok (.iload_n 2, 1) := by decide +kernel
theorem dX5_put_7 : decode cX5_put 7 = .ok (.invokevirtual 22, 3) := by decide +kernel
theorem dX5_put_10 : decode cX5_put 10 = .ok (.iastore, 1) := by decide +kernel
theorem dX5_put_11 : decode cX5_put 11 = .ok (.aload_n 0, 1) := by decide +kernel
theorem dX5_put_12 : decode cX5_put 12 = .ok (.getfield 18, 3) := by decide +kernel
theorem dX5_put_15 : decode cX5_put 15 = .ok (.iload_n 1, 1) := by decide +kernel
theorem dX5_put_16 : decode cX5_put 16 = .ok (.iaload, 1) := by decide +kernel
theorem dX5_put_17 : decode cX5_put 17 = .ok (.ireturn, 1) := by decide +kernel
theorem dX5_cut_0 : decode cX5_cut 0 = .ok (.aload_n 0, 1) := by decide +kernel
theorem dX5_cut_1 : decode cX5_cut 1 = .ok (.getfield 11, 3) := by decide +kernel
theorem dX5_cut_4 : decode cX5_cut 4 = .ok (.ifCond .ne 6, 3) := by decide +kernel
theorem dX5_cut_7 : decode cX5_cut 7 = .ok (.iload_n 1, 1) := by decide +kernel
theorem dX5_cut_8 : decode cX5_cut 8 = .ok (.i2b, 1) := by decide +kernel
theorem dX5_cut_9 : decode cX5_cut 9 = .ok (.ireturn, 1) := by decide +kernel
theorem dX5_cut_10 : decode cX5_cut 10 = .ok (.aload_n 0, 1) := by decide +kernel
theorem dX5_cut_11 : decode cX5_cut 11 = .ok (.getfield 11, 3) := by decide +kernel
theorem dX5_cut_14 : decode cX5_cut 14 = .ok (.iconst 1, 1) := by decide +kernel
theorem dX5_cut_15 : decode cX5_cut 15 = .ok (.if_icmp .ne 8, 3) := by decide +kernel
theorem dX5_cut_18 : decode cX5_cut 18 = .ok (.iload_n 1, 1) := by decide +kernel
theorem dX5_cut_19 : decode cX5_cut 19 = .ok (.i2s, 1) := by decide +kernel
theorem dX5_cut_20 : decode cX5_cut 20 = .ok (.goto 4, 3) := by decide +kernel
theorem dX5_cut_23 : decode cX5_cut 23 = .ok (.iload_n 1, 1) := by decide +kernel
theorem dX5_cut_24 : decode cX5_cut 24 = .ok (.ireturn, 1) := by decide +kernel
theorem dX6_init_0 : decode cX6_init 0 = .ok (.aload_n 0, 1) := by decide +kernel
theorem dX6_init_1 : decode cX6_init 1 = .ok (.invokespecial 3, 3) := by decide +kernel
theorem dX6_init_4 : decode cX6_init 4 = .ok (.aload_n 0, 1) := by decide +kernel
theorem dX6_init_5 : decode cX6_init 5 = .ok (.bipush 100, 2) := by decide +kernel
theorem dX6_init_7 : decode cX6_init 7 = .ok (.newarray .int, 2) := by decide +kernel
theorem dX6_init_9 : decode cX6_init 9 = .ok (.putfield 9, 3) := by decide +kernel
theorem dX6_init_12 : decode cX6_init 12 = .ok (.aload_n 0, 1) := by decide +kernel
theorem dX6_init_13 : decode cX6_init 13 = .ok (.iconst 0, 1) := by decide +kernel
theorem dX6_init_14 : decode cX6_init 14 = .ok (.putfield 15, 3) := by decide +kernel
theorem dX6_init_17 : decode cX6_init 17 = .ok (.aload_n 0, 1) := by decide +kernel
theorem dX6_init_18 : decode cX6_init 18 = .ok (.iconst 0, 1) := by decide +kernel
theorem dX6_init_19 : decode cX6_init 19 = .ok (.putfield 19, 3) := by decide +kernel
theorem dX6_init_22 : decode cX6_init 22 = .ok (.aload_n 0, 1) := by decide +kernel
theorem dX6_init_23 : decode cX6_init 23 = .ok (.iconst 0, 1) := by decide +kernel
theorem dX6_init_24 : decode cX6_init 24 = .ok (.putfield 22, 3) := by decide +kernel
theorem dX6_init_27 : decode cX6_init 27 = .ok (.return_, 1) := by decide +kernel
theorem dX6_append_0 : decode cX6_append 0 = .ok (.aload_n 0, 1) := by decide +kernel
theorem dX6_append_1 : decode cX6_append 1 = .ok (.getfield 15, 3) := by decide +kernel
theorem dX6_append_4 : decode cX6_append 4 = .ok (.bipush 100, 2) := by decide +kernel
theorem dX6_append_6 : decode cX6_append 6 = .ok (.if_icmp .ge 23, 3) := by decide +kernel
theorem dX6_append_9 : decode cX6_append 9 = .ok (.aload_n 0, 1) := by decide +kernel
theorem dX6_append_10 : decode cX6_append 10 = .ok (.getfield 9, 3) := by decide +kernel
theorem dX6_append_13 : decode cX6_append 13 = .ok (.aload_n 0, 1) := by decide +kernel
theorem dX6_append_14 : decode cX6_append 14 = .ok (.getfield 15, 3) := by decide +kernel
theorem dX6_append_17 : decode cX6_append 17 = .ok (.iload_n 1, 1) := by decide +kernel
theorem dX6_append_18 : decode cX6_append 18 = .ok (.iastore, 1) := by decide +kernel
theorem dX6_append_19 : decode cX6_append 19 = .ok (.aload_n 0, 1) := by decide +kernel
theorem dX6_append_20 : decode cX6_append 20 = .ok (.dup, 1) := by decide +kernel
theorem dX6_append_21 : decode cX6_append 21 = .ok (.getfield 15, 3) := by decide +kernel
theorem dX6_append_24 : decode cX6_append 24 = .ok (.iconst 1, 1) := by decide +kernel
theorem dX6_append_25 : decode cX6_append 25 = .ok (.iadd, 1) := by decide +kernel
theorem dX6_append_26 : decode cX6_append 26 = .ok (.putfield 15, 3) := by decide +kernel
theorem dX6_append_29 : decode cX6_append 29 = .ok (.return_, 1) := by decide +kernel
theorem dX6_readInto_0 : decode cX6_readInto 0 = .ok (.aload_n 0, 1) := by decide +kernel
theorem dX6_readInto_1 : decode cX6_readInto 1 = .ok (.iconst 0, 1) := by decide +kernel
theorem dX6_readInto_2 : decode cX6_readInto 2 = .ok (.putfield 19, 3) := by decide +kernel
theorem dX6_readInto_5 : decode cX6_readInto 5 = .ok (.aload_n 0, 1) := by decide +kernel
theorem dX6_readInto_6 : decode cX6_readInto 6 = .ok (.iconst 0, 1) := by decide +kernel
theorem dX6_readInto_7 : decode cX6_readInto 7 = .ok (.putfield 22, 3) := by decide +kernel
theorem dX6_readInto_10 : decode cX6_readInto 10 = .ok (.aload_n 1, 1) := by decide +kernel
theorem dX6_readInto_11 : decode cX6_readInto 11 = .ok (.iconst 0, 1) := by decide +kernel
theorem dX6_readInto_12 : decode cX6_readInto 12 = .ok (.putfield 25, 3) := by decide +kernel
theorem dX6_readInto_15 : decode cX6_readInto 15 = .ok (.aload_n 1, 1) := by decide +kernel
theorem dX6_readInto_16 : decode cX6_readInto 16 = .ok (.iconst 0, 1) := by decide +kernel
theorem dX6_readInto_17 : decode cX6_readInto 17 = .ok (.putfield 30, 3) := by decide +kernel
theorem dX6_readInto_20 : decode cX6_readInto 20 = .ok (.aload_n 1, 1) := by decide +kernel
theorem dX6_readInto_21 : decode cX6_readInto 21 = .ok (.iconst 0, 1) := by decide +kernel
theorem dX6_readInto_22 : decode cX6_readInto 22 = .ok (.putfield 33, 3) := by decide +kernel
theorem dX6_readInto_25 : decode cX6_readInto 25 = .ok (.aload_n 0, 1) := by decide +kernel
theorem dX6_readInto_26 : decode cX6_readInto 26 = .ok (.aload_n 1, 1) := by decide +kernel
theorem dX6_readInto_27 : decode cX6_readInto 27 = .ok (.invokevirtual 36, 3) := by decide +kernel
theorem dX6_readInto_30 : decode cX6_readInto 30 = .ok (.ifCond .eq 30, 3) := by decide +kernel
theorem dX6_readInto_33 : decode cX6_readInto 33 = .ok (.aload_n 0, 1) := by decide +kernel
theorem dX6_readInto_34 : decode cX6_readInto 34 = .ok (.aload_n 1, 1) := by decide +kernel
theorem dX6_readInto_35 : decode cX6_readInto 35 = .ok (.invokevirtual 40, 3) := by decide +kernel
theorem dX6_readInto_38 : decode cX6_readInto 38 = .ok (.ifCond .eq 22, 3) := by decide +kernel
theorem dX6_readInto_41 : decode cX6_readInto 41 = .ok (.aload_n 0, 1) := by decide +kernel
theorem dX6_readInto_42 : decode cX6_readInto 42 = .ok (.aload_n 1, 1) := by decide +kernel
theorem dX6_readInto_43 : decode cX6_readInto 43 = .ok (.invokevirtual 43, 3) := by decide +kernel
theorem dX6_readInto_46 : decode cX6_readInto 46 = .ok (.ifCond .eq 14, 3) := by decide +kernel
theorem dX6_readInto_49 : decode cX6_readInto 49 = .ok (.aload_n 0, 1) := by decide +kernel
theorem dX6_readInto_50 : decode cX6_readInto 50 = .ok (.invokevirtual 46, 3) := by decide +kernel
theorem dX6_readInto_53 : decode cX6_readInto 53 = .ok (.ifCond .eq 7, 3) := by decide +kernel
theorem dX6_readInto_56 : decode cX6_readInto 56 = .ok (.iconst 1, 1) := by decide +kernel
theorem dX6_readInto_57 : decode cX6_readInto 57 = .ok (.goto 4, 3) := by decide +kernel
theorem dX6_readInto_60 : decode cX6_readInto 60 = .ok (.iconst 0, 1) := by decide +kernel
theorem dX6_readInto_61 : decode cX6_readInto 61 = .ok (.ireturn, 1) := by decide +kernel
theorem dX6_readLaw_0 : decode cX6_readLaw 0 = .ok (.aload_n 0, 1) := by decide +kernel
theorem dX6_readLaw_1 : decode cX6_readLaw 1 = .ok (.bipush 114, 2) := by decide +kernel
theorem dX6_readLaw_3 : decode cX6_readLaw 3 = .ok (.invokevirtual 50, 3) := by decide +kernel
theorem dX6_readLaw_6 : decode cX6_readLaw 6 = .ok (.ifCond .ne 5, 3) := by decide +kernel
theorem dX6_readLaw_9 : decode cX6_readLaw 9 = .ok (.iconst 0, 1) := by decide +kernel
theorem dX6_readLaw_10 : decode cX6_readLaw 10 = .ok (.ireturn, 1) := by decide +kernel
theorem dX6_readLaw_11 : decode cX6_readLaw 11 = .ok (.aload_n 1, 1) := by decide +kernel
theorem dX6_readLaw_12 : decode cX6_readLaw 12 = .ok (.aload_n 0, 1) := by decide +kernel
theorem dX6_readLaw_13 : decode cX6_readLaw 13 = .ok (.iconst 1, 1) := by decide +kernel
theorem dX6_readLaw_14 : decode cX6_readLaw 14 = .ok (.bipush 40, 2) := by decide +kernel
theorem dX6_readLaw_16 : decode cX6_readLaw 16 = .ok (.invokevirtual 54, 3) := by decide +kernel
theorem dX6_readLaw_19 : decode cX6_readLaw 19 = .ok (.putfield 58, 3) := by decide +kernel
theorem dX6_readLaw_22 : decode cX6_readLaw 22 = .ok (.aload_n 1, 1) := by decide +kernel
theorem dX6_readLaw_23 : decode cX6_readLaw 23 = .ok (.getfield 58, 3) := by decide +kernel
theorem dX6_readLaw_26 : decode cX6_readLaw 26 = .ok (.iconst (-1), 1) := by decide +kernel
theorem dX6_readLaw_27 : decode cX6_readLaw 27 = .ok (.if_icmp .eq 12, 3) := by decide +kernel
theorem dX6_readLaw_30 : decode cX6_readLaw 30 = .ok (.aload_n 0, 1) := by decide +kernel
theorem dX6_readLaw_31 : decode cX6_readLaw 31 = .ok (.bipush 44, 2) := by decide +kernel
theorem dX6_readLaw_33 : decode cX6_readLaw 33 = .ok (.invokevirtual 50, 3) := by decide +kernel
theorem dX6_readLaw_36 : decode cX6_readLaw 36 = .ok (.ifCond .ne 5, 3) := by decide +kernel
theorem dX6_readLaw_39 : decode cX6_readLaw 39 = .ok (.iconst 0, 1) := by decide +kernel
theorem dX6_readLaw_40 : decode cX6_readLaw 40 = .ok (.ireturn, 1) := by decide +kernel
theorem dX6_readLaw_41 : decode cX6_readLaw 41 = .ok (.aload_n 1, 1) := by decide +kernel
theorem dX6_readLaw_42 : decode cX6_readLaw 42 = .ok (.aload_n 0, 1) := by decide +kernel
theorem dX6_readLaw_43 : decode cX6_readLaw 43 = .ok (.iconst 1, 1) := by decide +kernel
theorem dX6_readLaw_44 : decode cX6_readLaw 44 = .ok (.bipush 99, 2) := by decide +kernel
theorem dX6_readLaw_46 : decode cX6_readLaw 46 = .ok (.invokevirtual 54, 3) := by decide +kernel
theorem dX6_readLaw_49 : decode cX6_readLaw 49 = .ok (.putfield 61, 3) := by decide +kernel
theorem dX6_readLaw_52 : decode cX6_readLaw 52 = .ok (.aload_n 1, 1) := by decide +kernel
theorem dX6_readLaw_53 : decode cX6_readLaw 53 = .ok (.getfield 61, 3) := by decide +kernel
theorem dX6_readLaw_56 : decode cX6_readLaw 56 = .ok (.iconst (-1), 1) := by decide +kernel
theorem dX6_readLaw_57 : decode cX6_readLaw 57 = .ok (.if_icmp .eq 16, 3) := by decide +kernel
theorem dX6_readLaw_60 : decode cX6_readLaw 60 = .ok (.aload_n 0, 1) := by decide +kernel
theorem dX6_readLaw_61 : decode cX6_readLaw 61 = .ok (.bipush 59, 2) := by decide +kernel
theorem dX6_readLaw_63 : decode cX6_readLaw 63 = .ok (.invokevirtual 50, 3) := by decide +kernel
theorem dX6_readLaw_66 : decode cX6_readLaw 66 = .ok (.ifCond .eq 7, 3) := by decide +kernel
theorem dX6_readLaw_69 : decode cX6_readLaw 69 = .ok (.iconst 1, 1) := by decide +kernel
theorem dX6_readLaw_70 : decode cX6_readLaw 70 = .ok (.goto 4, 3) := by decide +kernel
theorem dX6_readLaw_73 : decode cX6_readLaw 73 = .ok (.iconst 0, 1) := by decide +kernel
theorem dX6_readLaw_74 : decode cX6_readLaw 74 = .ok (.ireturn, 1) := by decide +kernel
theorem dX6_readWinds_0 : decode cX6_readWinds 0 = .ok (.iconst 0, 1) := by decide +kernel
theorem dX6_readWinds_1 : decode cX6_readWinds 1 = .ok (.istore_n 2, 1) := by decide +kernel
theorem dX6_readWinds_2 : decode cX6_readWinds 2 = .ok (.iload_n 2, 1) := by decide +kernel
theorem dX6_readWinds_3 : decode cX6_readWinds 3 = .ok (.bipush 6, 2) := by decide +kernel
theorem dX6_readWinds_5 : decode cX6_readWinds 5 = .ok (.if_icmp .gt 78, 3) := by decide +kernel
theorem dX6_readWinds_8 : decode cX6_readWinds 8 = .ok (.aload_n 0, 1) := by decide +kernel
theorem dX6_readWinds_9 : decode cX6_readWinds 9 = .ok (.invokevirtual 64, 3) := by decide +kernel
theorem dX6_readWinds_12 : decode cX6_readWinds 12 = .ok (.bipush 119, 2) := by decide +kernel
theorem dX6_readWinds_14 : decode cX6_readWinds 14 = .ok (.if_icmp .ne 69, 3) := by decide +kernel
theorem dX6_readWinds_17 : decode cX6_readWinds 17 = .ok (.iload_n 2, 1) := by decide +kernel
theorem dX6_readWinds_18 : decode cX6_readWinds 18 = .ok (.bipush 6, 2) := by decide +kernel
theorem dX6_readWinds_20 : decode cX6_readWinds 20 = .ok (.if_icmp .ne 9, 3) := by decide +kernel
theorem dX6_readWinds_23 : decode cX6_readWinds 23 = .ok (.aload_n 0, 1) := by decide +kernel
theorem dX6_readWinds_24 : decode cX6_readWinds 24 = .ok (.iconst 3, 1) := by decide +kernel
theorem dX6_readWinds_25 : decode cX6_readWinds 25 = .ok (.invokevirtual 68, 3) := by decide +kernel
theorem dX6_readWinds_28 : decode cX6_readWinds 28 = .ok (.ireturn, 1) := by decide +kernel
theorem dX6_readWinds_29 : decode cX6_readWinds 29 = .ok (.aload_n 0, 1) := by decide +kernel
theorem dX6_readWinds_30 : decode cX6_readWinds 30 = .ok (.dup, 1) := by decide +kernel
theorem dX6_readWinds_31 : decode cX6_readWinds 31 = .ok (.getfield 19, 3) := by decide +kernel
theorem dX6_readWinds_34 : decode cX6_readWinds 34 = .ok (.iconst 1, 1) := by decide +kernel
theorem dX6_readWinds_35 : decode cX6_readWinds 35 = .ok (.iadd, 1) := by decide +kernel
theorem dX6_readWinds_36 : decode cX6_readWinds 36 = .ok (.putfield 19, 3) := by decide +kernel
theorem dX6_readWinds_39 : decode cX6_readWinds 39 = .ok (.aload_n 0, 1) := by decide +kernel
theorem dX6_readWinds_40 : decode cX6_readWinds 40 = .ok (.iconst 0, 1) := by decide +kernel
theorem dX6_readWinds_41 : decode cX6_readWinds 41 = .ok (.bipush 9, 2) := by decide +kernel
theorem dX6_readWinds_43 : decode cX6_readWinds 43 = .ok (.invokevirtual 54, 3) := by decide +kernel
theorem dX6_readWinds_46 : decode cX6_readWinds 46 = .ok (.istore_n 3, 1) := by decide +kernel
theorem dX6_readWinds_47 : decode cX6_readWinds 47 = .ok (.iload_n 3, 1) := by decide +kernel
theorem dX6_readWinds_48 : decode cX6_readWinds 48 = .ok (.iconst (-1), 1) := by decide +kernel
theorem dX6_readWinds_49 : decode cX6_readWinds 49 = .ok (.if_icmp .eq 12, 3) := by decide +kernel
theorem dX6_readWinds_52 : decode cX6_readWinds 52 = .ok (.aload_n 0, 1) := by decide +kernel
theorem dX6_readWinds_53 : decode cX6_readWinds 53 = .ok (.bipush 59, 2) := by decide +kernel
theorem dX6_readWinds_55 : decode cX6_readWinds 55 = .ok (.invokevirtual 50, 3) := by decide +kernel
theorem dX6_readWinds_58 : decode cX6_readWinds 58 = .ok (.ifCond .ne 5, 3) := by decide +kernel
theorem dX6_readWinds_61 : decode cX6_readWinds 61 = .ok (.iconst 0, 1) := by decide +kernel
theorem dX6_readWinds_62 : decode cX6_readWinds 62 = .ok (.ireturn, 1) := by decide +kernel
theorem dX6_readWinds_63 : decode cX6_readWinds 63 = .ok (.aload_n 1, 1) := by decide +kernel
theorem dX6_readWinds_64 : decode cX6_readWinds 64 = .ok (.getfield 71, 3) := by decide +kernel
theorem dX6_readWinds_67 : decode cX6_readWinds 67 = .ok (.iload_n 2, 1) := by decide +kernel
theorem dX6_readWinds_68 : decode cX6_readWinds 68 = .ok (.iload_n 3, 1) := by decide +kernel
theorem dX6_readWinds_69 : decode cX6_readWinds 69 = .ok (.iastore, 1) := by decide +kernel
theorem dX6_readWinds_70 : decode cX6_readWinds 70 = .ok (.aload_n 1, 1) := by decide +kernel
theorem dX6_readWinds_71 : decode cX6_readWinds 71 = .ok (.iload_n 2, 1) := by decide +kernel
theorem dX6_readWinds_72 : decode cX6_readWinds 72 = .ok (.iconst 1, 1) := by decide +kernel
theorem dX6_readWinds_73 : decode cX6_readWinds 73 = .ok (.iadd, 1) := by decide +kernel
theorem dX6_readWinds_74 : decode cX6_readWinds 74 = .ok (.putfield 30, 3) := by decide +kernel
theorem dX6_readWinds_77 : decode cX6_readWinds 77 = .ok (.iinc 2 1, 3) := by decide +kernel
theorem dX6_readWinds_80 : decode cX6_readWinds 80 = .ok (.goto (-78), 3) := by decide +kernel
theorem dX6_readWinds_83 : decode cX6_readWinds 83 = .ok (.iconst 1, 1) := by decide +kernel
theorem dX6_readWinds_84 : decode cX6_readWinds 84 = .ok (.ireturn, 1) := by decide +kernel
theorem dX6_readPapers_0 : decode cX6_readPapers 0 = .ok (.iconst 0, 1) := by decide +kernel
theorem dX6_readPapers_1 : decode cX6_readPapers 1 = .ok (.istore_n 2, 1) := by decide +kernel
theorem dX6_readPapers_2 : decode cX6_readPapers 2 = .ok (.iload_n 2, 1) := by decide +kernel
theorem dX6_readPapers_3 : decode cX6_readPapers 3 = .ok (.bipush 6, 2) := by decide +kernel
theorem dX6_readPapers_5 : decode cX6_readPapers 5 = .ok (.if_icmp .gt 53, 3) := by decide +kernel
theorem dX6_readPapers_8 : decode cX6_readPapers 8 = .ok (.aload_n 0, 1) := by decide +kernel
theorem dX6_readPapers_9 : decode cX6_readPapers 9 = .ok (.invokevirtual 64, 3) := by decide +kernel
theorem dX6_readPapers_12 : decode cX6_readPapers 12 = .ok (.invokestatic 74, 3) := by decide +kernel
theorem dX6_readPapers_15 : decode cX6_readPapers 15 = .ok (.ifCond .eq 43, 3) := by decide +kernel
theorem dX6_readPapers_18 : decode cX6_readPapers 18 = .ok (.iload_n 2, 1) := by decide +kernel
theorem dX6_readPapers_19 : decode cX6_readPapers 19 = .ok (.bipush 6, 2) := by decide +kernel
theorem dX6_readPapers_21 : decode cX6_readPapers 21 = .ok (.if_icmp .ne 9, 3) := by decide +kernel
theorem dX6_readPapers_24 : decode cX6_readPapers 24 = .ok (.aload_n 0, 1) := by decide +kernel
theorem dX6_readPapers_25 : decode cX6_readPapers 25 = .ok (.iconst 3, 1) := by decide +kernel
theorem dX6_readPapers_26 : decode cX6_readPapers 26 = .ok (.invokevirtual 68, 3) := by decide +kernel
theorem dX6_readPapers_29 : decode cX6_readPapers 29 = .ok (.ireturn, 1) := by decide +kernel
theorem dX6_readPapers_30 : decode cX6_readPapers 30 = .ok (.aload_n 0, 1) := by decide +kernel
theorem dX6_readPapers_31 : decode cX6_readPapers 31 = .ok (.aload_n 1, 1) := by decide +kernel
theorem dX6_readPapers_32 : decode cX6_readPapers 32 = .ok (.getfield 78, 3) := by decide +kernel
theorem dX6_readPapers_35 : decode cX6_readPapers 35 = .ok (.iload_n 2, 1) := by decide +kernel
theorem dX6_readPapers_36 : decode cX6_readPapers 36 = .ok (.aaload, 1) := by decide +kernel
theorem dX6_readPapers_37 : decode cX6_readPapers 37 = .ok (.invokevirtual 82, 3) := by decide +kernel
theorem dX6_readPapers_40 : decode cX6_readPapers 40 = .ok (.ifCond .ne 5, 3) := by decide +kernel
theorem dX6_readPapers_43 : decode cX6_readPapers 43 = .ok (.iconst 0, 1) := by decide +kernel
theorem dX6_readPapers_44 : decode cX6_readPapers 44 = .ok (.ireturn, 1) := by decide +kernel
theorem dX6_readPapers_45 : decode cX6_readPapers 45 = .ok (.aload_n 1, 1) := by decide +kernel
theorem dX6_readPapers_46 : decode cX6_readPapers 46 = .ok (.iload_n 2, 1) := by decide +kernel
theorem dX6_readPapers_47 : decode cX6_readPapers 47 = .ok (.iconst 1, 1) := by decide +kernel
theorem dX6_readPapers_48 : decode cX6_readPapers 48 = .ok (.iadd, 1) := by decide +kernel
theorem dX6_readPapers_49 : decode cX6_readPapers 49 = .ok (.putfield 33, 3) := by decide +kernel
theorem dX6_readPapers_52 : decode cX6_readPapers 52 = .ok (.iinc 2 1, 3) := by decide +kernel
theorem dX6_readPapers_55 : decode cX6_readPapers 55 = .ok (.goto (-53), 3) := by decide +kernel
theorem dX6_readPapers_58 : decode cX6_readPapers 58 = .ok (.aload_n 1, 1) := by decide +kernel
theorem dX6_readPapers_59 : decode cX6_readPapers 59 = .ok (.getfield 33, 3) := by decide +kernel
theorem dX6_readPapers_62 : decode cX6_readPapers 62 = .ok (.ifCond .gt 11, 3) := by decide +kernel
theorem dX6_readPapers_65 : decode cX6_readPapers 65 = .ok (.aload_n 0, 1) := by decide +kernel
theorem dX6_readPapers_66 : decode cX6_readPapers 66 = .ok (.iconst 1, 1) := by decide +kernel
theorem dX6_readPapers_67 : decode cX6_readPapers 67 = .ok (.invokevirtual 68, 3) := by decide +kernel
theorem dX6_readPapers_70 : decode cX6_readPapers 70 = .ok (.ifCond .eq 7, 3) := by decide +kernel
theorem dX6_readPapers_73 : decode cX6_readPapers 73 = .ok (.iconst 1, 1) := by decide +kernel
theorem dX6_readPapers_74 : decode cX6_readPapers 74 = .ok (.goto 4, 3) := by decide +kernel
theorem dX6_readPapers_77 : decode cX6_readPapers 77 = .ok (.iconst 0, 1) := by decide +kernel
theorem dX6_readPapers_78 : decode cX6_readPapers 78 = .ok (.ireturn, 1) := by decide +kernel
theorem dX6_readPaper_0 : decode cX6_readPaper 0 = .ok (.aload_n 1, 1) := by decide +kernel
theorem dX6_readPaper_1 : decode cX6_readPaper 1 = .ok (.aload_n 0, 1) := by decide +kernel
theorem dX6_readPaper_2 : decode cX6_readPaper 2 = .ok (.invokevirtual 64, 3) := by decide +kernel
theorem dX6_readPaper_5 : decode cX6_readPaper 5 = .ok (.invokestatic 74, 3) := by decide +kernel
theorem dX6_readPaper_8 : decode cX6_readPaper 8 = .ok (.putfield 86, 3) := by decide +kernel
theorem dX6_readPaper_11 : decode cX6_readPaper 11 = .ok (.aload_n 0, 1) := by decide +kernel
theorem dX6_readPaper_12 : decode cX6_readPaper 12 = .ok (.dup, 1) := by decide +kernel
theorem dX6_readPaper_13 : decode cX6_readPaper 13 = .ok (.getfield 19, 3) := by decide +kernel
theorem dX6_readPaper_16 : decode cX6_readPaper 16 = .ok (.iconst 1, 1) := by decide +kernel
theorem dX6_readPaper_17 : decode cX6_readPaper 17 = .ok (.iadd, 1) := by decide +kernel
theorem dX6_readPaper_18 : decode cX6_readPaper 18 = .ok (.putfield 19, 3) := by decide +kernel
theorem dX6_readPaper_21 : decode cX6_readPaper 21 = .ok (.aload_n 1, 1) := by decide +kernel
theorem dX6_readPaper_22 : decode cX6_readPaper 22 = .ok (.aload_n 0, 1) := by decide +kernel
theorem dX6_readPaper_23 : decode cX6_readPaper 23 = .ok (.iconst 0, 1) := by decide +kernel
theorem dX6_readPaper_24 : decode cX6_readPaper 24 = .ok (.bipush 9, 2) := by decide +kernel
theorem dX6_readPaper_26 : decode cX6_readPaper 26 = .ok (.invokevirtual 54, 3) := by decide +kernel
theorem dX6_readPaper_29 : decode cX6_readPaper 29 = .ok (.putfield 91, 3) := by decide +kernel
theorem dX6_readPaper_32 : decode cX6_readPaper 32 = .ok (.aload_n 1, 1) := by decide +kernel
theorem dX6_readPaper_33 : decode cX6_readPaper 33 = .ok (.getfield 91, 3) := by decide +kernel
theorem dX6_readPaper_36 : decode cX6_readPaper 36 = .ok (.iconst (-1), 1) := by decide +kernel
theorem dX6_readPaper_37 : decode cX6_readPaper 37 = .ok (.if_icmp .eq 12, 3) := by decide +kernel
theorem dX6_readPaper_40 : decode cX6_readPaper 40 = .ok (.aload_n 0, 1) := by decide +kernel
theorem dX6_readPaper_41 : decode cX6_readPaper 41 = .ok (.bipush 44, 2) := by decide +kernel
theorem dX6_readPaper_43 : decode cX6_readPaper 43 = .ok (.invokevirtual 50, 3) := by decide +kernel
theorem dX6_readPaper_46 : decode cX6_readPaper 46 = .ok (.ifCond .ne 5, 3) := by decide +kernel
theorem dX6_readPaper_49 : decode cX6_readPaper 49 = .ok (.iconst 0, 1) := by decide +kernel
theorem dX6_readPaper_50 : decode cX6_readPaper 50 = .ok (.ireturn, 1) := by decide +kernel
theorem dX6_readPaper_51 : decode cX6_readPaper 51 = .ok (.aload_n 1, 1) := by decide +kernel
theorem dX6_readPaper_52 : decode cX6_readPaper 52 = .ok (.aload_n 0, 1) := by decide +kernel
theorem dX6_readPaper_53 : decode cX6_readPaper 53 = .ok (.iconst 1, 1) := by decide +kernel
theorem dX6_readPaper_54 : decode cX6_readPaper 54 = .ok (.bipush 60, 2) := by decide +kernel
theorem dX6_readPaper_56 : decode cX6_readPaper 56 = .ok (.invokevirtual 54, 3) := by decide +kernel
theorem dX6_readPaper_59 : decode cX6_readPaper 59 = .ok (.putfield 94, 3) := by decide +kernel
theorem dX6_readPaper_62 : decode cX6_readPaper 62 = .ok (.aload_n 1, 1) := by decide +kernel
theorem dX6_readPaper_63 : decode cX6_readPaper 63 = .ok (.iconst 0, 1) := by decide +kernel
theorem dX6_readPaper_64 : decode cX6_readPaper 64 = .ok (.ldc 97, 2) := by decide +kernel
theorem dX6_readPaper_66 : decode cX6_readPaper 66 = .ok (.invokevirtual 98, 3) := by decide +kernel
theorem dX6_readPaper_69 : decode cX6_readPaper 69 = .ok (.aload_n 1, 1) := by decide +kernel
theorem dX6_readPaper_70 : decode cX6_readPaper 70 = .ok (.getfield 94, 3) := by decide +kernel
theorem dX6_readPaper_73 : decode cX6_readPaper 73 = .ok (.iconst (-1), 1) := by decide +kernel
theorem dX6_readPaper_74 : decode cX6_readPaper 74 = .ok (.if_icmp .eq 16, 3) := by decide +kernel
theorem dX6_readPaper_77 : decode cX6_readPaper 77 = .ok (.aload_n 0, 1) := by decide +kernel
theorem dX6_readPaper_78 : decode cX6_readPaper 78 = .ok (.bipush 59, 2) := by decide +kernel
theorem dX6_readPaper_80 : decode cX6_readPaper 80 = .ok (.invokevirtual 50, 3) := by decide +kernel
theorem dX6_readPaper_83 : decode cX6_readPaper 83 = .ok (.ifCond .eq 7, 3) := by decide +kernel
theorem dX6_readPaper_86 : decode cX6_readPaper 86 = .ok (.iconst 1, 1) := by decide +kernel
theorem dX6_readPaper_87 : decode cX6_readPaper 87 = .ok (.goto 4, 3) := by decide +kernel
theorem dX6_readPaper_90 : decode cX6_readPaper 90 = .ok (.iconst 0, 1) := by decide +kernel
theorem dX6_readPaper_91 : decode cX6_readPaper 91 = .ok (.ireturn, 1) := by decide +kernel
theorem dX6_sortOf_0 : decode cX6_sortOf 0 = .ok (.iload_n 0, 1) := by decide +kernel
theorem dX6_sortOf_1 : decode cX6_sortOf 1 = .ok (.lookupswitch 61 #[(98, 51), (99, 59), (102, 53), (108, 57), (116, 55)], 51) := by decide +kernel
theorem dX6_sortOf_52 : decode cX6_sortOf 52 = .ok (.iconst 1, 1) := by decide +kernel
theorem dX6_sortOf_53 : decode cX6_sortOf 53 = .ok (.ireturn, 1) := by decide +kernel
theorem dX6_sortOf_54 : decode cX6_sortOf 54 = .ok (.iconst 2, 1) := by decide +kernel
theorem dX6_sortOf_55 : decode cX6_sortOf 55 = .ok (.ireturn, 1) := by decide +kernel
theorem dX6_sortOf_56 : decode cX6_sortOf 56 = .ok (.iconst 3, 1) := by decide +kernel
theorem dX6_sortOf_57 : decode cX6_sortOf 57 = .ok (.ireturn, 1) := by decide +kernel
theorem dX6_sortOf_58 : decode cX6_sortOf 58 = .ok (.iconst 4, 1) := by decide +kernel
theorem dX6_sortOf_59 : decode cX6_sortOf 59 = .ok (.ireturn, 1) := by decide +kernel
theorem dX6_sortOf_60 : decode cX6_sortOf 60 = .ok (.iconst 5, 1) := by decide +kernel
theorem dX6_sortOf_61 : decode cX6_sortOf 61 = .ok (.ireturn, 1) := by decide +kernel
theorem dX6_sortOf_62 : decode cX6_sortOf 62 = .ok (.iconst 0, 1) := by decide +kernel
theorem dX6_sortOf_63 : decode cX6_sortOf 63 = .ok (.ireturn, 1) := by decide +kernel
theorem dX6_next_0 : decode cX6_next 0 = .ok (.aload_n 0, 1) := by decide +kernel
theorem dX6_next_1 : decode cX6_next 1 = .ok (.aload_n 0, 1) := by decide +kernel
theorem dX6_next_2 : decode cX6_next 2 = .ok (.getfield 19, 3) := by decide +kernel
theorem dX6_next_5 : decode cX6_next 5 = .ok (.invokevirtual 102, 3) := by decide +kernel
theorem dX6_next_8 : decode cX6_next 8 = .ok (.ireturn, 1) := by decide +kernel
theorem dX6_byteAt_0 : decode cX6_byteAt 0 = .ok (.iload_n 1, 1) := by decide +kernel
theorem dX6_byteAt_1 : decode cX6_byteAt 1 = .ok (.ifCond .lt 26, 3) := by decide +kernel
theorem dX6_byteAt_4 : decode cX6_byteAt 4 = .ok (.iload_n 1, 1) := by decide +kernel
theorem dX6_byteAt_5 : decode cX6_byteAt 5 = .ok (.aload_n 0, 1) := by decide +kernel
theorem dX6_byteAt_6 : decode cX6_byteAt 6 = .ok (.getfield 15, 3) := by decide +kernel
theorem dX6_byteAt_9 : decode cX6_byteAt 9 = .ok (.if_icmp .ge 18, 3) := by decide +kernel
theorem dX6_byteAt_12 : decode cX6_byteAt 12 = .ok (.iload_n 1, 1) := by decide +kernel
theorem dX6_byteAt_13 : decode cX6_byteAt 13 = .ok (.bipush 100, 2) := by decide +kernel
theorem dX6_byteAt_15 : decode cX6_byteAt 15 = .ok (.if_icmp .ge 12, 3) := by decide +kernel
theorem dX6_byteAt_18 : decode cX6_byteAt 18 = .ok (.aload_n 0, 1) := by decide +kernel
theorem dX6_byteAt_19 : decode cX6_byteAt 19 = .ok (.getfield 9, 3) := by decide +kernel
theorem dX6_byteAt_22 : decode cX6_byteAt 22 = .ok (.iload_n 1, 1) := by decide +kernel
theorem dX6_byteAt_23 : decode cX6_byteAt 23 = .ok (.iaload, 1) := by decide +kernel
theorem dX6_byteAt_24 : decode cX6_byteAt 24 = .ok (.goto 4, 3) := by decide +kernel
theorem dX6_byteAt_27 : decode cX6_byteAt 27 = .ok (.iconst (-1), 1) := by decide +kernel
theorem dX6_byteAt_28 : decode cX6_byteAt 28 = .ok (.ireturn, 1) := by decide +kernel
theorem dX6_take_0 : decode cX6_take 0 = .ok (.aload_n 0, 1) := by decide +kernel
theorem dX6_take_1 : decode cX6_take 1 = .ok (.invokevirtual 64, 3) := by decide +kernel
theorem dX6_take_4 : decode cX6_take 4 = .ok (.iload_n 1, 1) := by decide +kernel
theorem dX6_take_5 : decode cX6_take 5 = .ok (.if_icmp .eq 9, 3) := by decide +kernel
theorem dX6_take_8 : decode cX6_take 8 = .ok (.aload_n 0, 1) := by decide +kernel
theorem dX6_take_9 : decode cX6_take 9 = .ok (.iconst 1, 1) := by decide +kernel
theorem dX6_take_10 : decode cX6_take 10 = .ok (.invokevirtual 68, 3) := by decide +kernel
theorem dX6_take_13 : decode cX6_take 13 = .ok (.ireturn, 1) := by decide +kernel
theorem dX6_take_14 : decode cX6_take 14 = .ok (.aload_n 0, 1) := by decide +kernel
theorem dX6_take_15 : decode cX6_take 15 = .ok (.dup, 1) := by decide +kernel
theorem dX6_take_16 : decode cX6_take 16 = .ok (.getfield 19, 3) := by decide +kernel
theorem dX6_take_19 : decode cX6_take 19 = .ok (.iconst 1, 1) := by decide +kernel
theorem dX6_take_20 : decode cX6_take 20 = .ok (.iadd, 1) := by decide +kernel
theorem dX6_take_21 : decode cX6_take 21 = .ok (.putfield 19, 3) := by decide +kernel
theorem dX6_take_24 : decode cX6_take 24 = .ok (.iconst 1, 1) := by decide +kernel
theorem dX6_take_25 : decode cX6_take 25 = .ok (.ireturn, 1) := by decide +kernel
theorem dX6_takeEnd_0 : decode cX6_takeEnd 0 = .ok (.aload_n 0, 1) := by decide +kernel
theorem dX6_takeEnd_1 : decode cX6_takeEnd 1 = .ok (.invokevirtual 64, 3) := by decide +kernel
theorem dX6_takeEnd_4 : decode cX6_takeEnd 4 = .ok (.iconst (-1), 1) := by decide +kernel
theorem dX6_takeEnd_5 : decode cX6_takeEnd 5 = .ok (.if_icmp .eq 11, 3) := by decide +kernel
theorem dX6_takeEnd_8 : decode cX6_takeEnd 8 = .ok (.aload_n 0, 1) := by decide +kernel
theorem dX6_takeEnd_9 : decode cX6_takeEnd 9 = .ok (.iconst 1, 1) := by decide +kernel
theorem dX6_takeEnd_10 : decode cX6_takeEnd 10 = .ok (.invokevirtual 68, 3) := by decide +kernel
theorem dX6_takeEnd_13 : decode cX6_takeEnd 13 = .ok (.ifCond .eq 7, 3) := by decide +kernel
theorem dX6_takeEnd_16 : decode cX6_takeEnd 16 = .ok (.iconst 1, 1) := by decide +kernel
theorem dX6_takeEnd_17 : decode cX6_takeEnd 17 = .ok (.goto 4, 3) := by decide +kernel
theorem dX6_takeEnd_20 : decode cX6_takeEnd 20 = .ok (.iconst 0, 1) := by decide +kernel
theorem dX6_takeEnd_21 : decode cX6_takeEnd 21 = .ok (.ireturn, 1) := by decide +kernel
theorem dX6_takeNumber_0 : decode cX6_takeNumber 0 = .ok (.aload_n 0, 1) := by decide +kernel
theorem dX6_takeNumber_1 : decode cX6_takeNumber 1 = .ok (.invokevirtual 105, 3) := by decide +kernel
theorem dX6_takeNumber_4 : decode cX6_takeNumber 4 = .ok (.istore_n 3, 1) := by decide +kernel
theorem dX6_takeNumber_5 : decode cX6_takeNumber 5 = .ok (.iload_n 3, 1) := by decide +kernel
theorem dX6_takeNumber_6 : decode cX6_takeNumber 6 = .ok (.iconst 1, 1) := by decide +kernel
theorem dX6_takeNumber_7 : decode cX6_takeNumber 7 = .ok (.if_icmp .lt 8, 3) := by decide +kernel
theorem dX6_takeNumber_10 : decode cX6_takeNumber 10 = .ok (.iload_n 3, 1) := by decide +kernel
theorem dX6_takeNumber_11 : decode cX6_takeNumber 11 = .ok (.iconst 2, 1) := by decide +kernel
theorem dX6_takeNumber_12 : decode cX6_takeNumber 12 = .ok (.if_icmp .le 11, 3) := by decide +kernel
theorem dX6_takeNumber_15 : decode cX6_takeNumber 15 = .ok (.aload_n 0, 1) := by decide +kernel
theorem dX6_takeNumber_16 : decode cX6_takeNumber 16 = .ok (.iconst 1, 1) := by decide +kernel
theorem dX6_takeNumber_17 : decode cX6_takeNumber 17 = .ok (.invokevirtual 68, 3) := by decide +kernel
theorem dX6_takeNumber_20 : decode cX6_takeNumber 20 = .ok (.pop, 1) := by decide +kernel
theorem dX6_takeNumber_21 : decode cX6_takeNumber 21 = .ok (.iconst (-1), 1) := by decide +kernel
theorem dX6_takeNumber_22 : decode cX6_takeNumber 22 = .ok (.ireturn, 1) := by decide +kernel
theorem dX6_takeNumber_23 : decode cX6_takeNumber 23 = .ok (.aload_n 0, 1) := by decide +kernel
theorem dX6_takeNumber_24 : decode cX6_takeNumber 24 = .ok (.invokevirtual 64, 3) := by decide +kernel
theorem dX6_takeNumber_27 : decode cX6_takeNumber 27 = .ok (.bipush 48, 2) := by decide +kernel
theorem dX6_takeNumber_29 : decode cX6_takeNumber 29 = .ok (.isub, 1) := by decide +kernel
theorem dX6_takeNumber_30 : decode cX6_takeNumber 30 = .ok (.istore 4, 2) := by decide +kernel
theorem dX6_takeNumber_32 : decode cX6_takeNumber 32 = .ok (.iload_n 3, 1) := by decide +kernel
theorem dX6_takeNumber_33 : decode cX6_takeNumber 33 = .ok (.iconst 2, 1) := by decide +kernel
theorem dX6_takeNumber_34 : decode cX6_takeNumber 34 = .ok (.if_icmp .ne 24, 3) := by decide +kernel
theorem dX6_takeNumber_37 : decode cX6_takeNumber 37 = .ok (.bipush 10, 2) := by decide +kernel
theorem dX6_takeNumber_39 : decode cX6_takeNumber 39 = .ok (.iload 4, 2) := by decide +kernel
theorem dX6_takeNumber_41 : decode cX6_takeNumber 41 = .ok (.imul, 1) := by decide +kernel
theorem dX6_takeNumber_42 : decode cX6_takeNumber 42 = .ok (.aload_n 0, 1) := by decide +kernel
theorem dX6_takeNumber_43 : decode cX6_takeNumber 43 = .ok (.aload_n 0, 1) := by decide +kernel
theorem dX6_takeNumber_44 : decode cX6_takeNumber 44 = .ok (.getfield 19, 3) := by decide +kernel
theorem dX6_takeNumber_47 : decode cX6_takeNumber 47 = .ok (.iconst 1, 1) := by decide +kernel
theorem dX6_takeNumber_48 : decode cX6_takeNumber 48 = .ok (.iadd, 1) := by decide +kernel
theorem dX6_takeNumber_49 : decode cX6_takeNumber 49 = .ok (.invokevirtual 102, 3) := by decide +kernel
theorem dX6_takeNumber_52 : decode cX6_takeNumber 52 = .ok (.iadd, 1) := by decide +kernel
theorem dX6_takeNumber_53 : decode cX6_takeNumber 53 = .ok (.bipush 48, 2) := by decide +kernel
theorem dX6_takeNumber_55 : decode cX6_takeNumber 55 = .ok (.isub, 1) := by decide +kernel
theorem dX6_takeNumber_56 : decode cX6_takeNumber 56 = .ok (.istore 4, 2) := by decide +kernel
theorem dX6_takeNumber_58 : decode cX6_takeNumber 58 = .ok (.iload 4, 2) := by decide +kernel
theorem dX6_takeNumber_60 : decode cX6_takeNumber 60 = .ok (.iload_n 1, 1) := by decide +kernel
theorem dX6_takeNumber_61 : decode cX6_takeNumber 61 = .ok (.if_icmp .lt 9, 3) := by decide +kernel
theorem dX6_takeNumber_64 : decode cX6_takeNumber 64 = .ok (.iload 4, 2) := by decide +kernel
theorem dX6_takeNumber_66 : decode cX6_takeNumber 66 = .ok (.iload_n 2, 1) := by decide +kernel
theorem dX6_takeNumber_67 : decode cX6_takeNumber 67 = .ok (.if_icmp .le 11, 3) := by decide +kernel
theorem dX6_takeNumber_70 : decode cX6_takeNumber 70 = .ok (.aload_n 0, 1) := by decide +kernel
theorem dX6_takeNumber_71 : decode cX6_takeNumber 71 = .ok (.iconst 2, 1) := by decide +kernel
theorem dX6_takeNumber_72 : decode cX6_takeNumber 72 = .ok (.invokevirtual 68, 3) := by decide +kernel
theorem dX6_takeNumber_75 : decode cX6_takeNumber 75 = .ok (.pop, 1) := by decide +kernel
theorem dX6_takeNumber_76 : decode cX6_takeNumber 76 = .ok (.iconst (-1), 1) := by decide +kernel
theorem dX6_takeNumber_77 : decode cX6_takeNumber 77 = .ok (.ireturn, 1) := by decide +kernel
theorem dX6_takeNumber_78 : decode cX6_takeNumber 78 = .ok (.aload_n 0, 1) := by decide +kernel
theorem dX6_takeNumber_79 : decode cX6_takeNumber 79 = .ok (.dup, 1) := by decide +kernel
theorem dX6_takeNumber_80 : decode cX6_takeNumber 80 = .ok (.getfield 19, 3) := by decide +kernel
theorem dX6_takeNumber_83 : decode cX6_takeNumber 83 = .ok (.iload_n 3, 1) := by decide +kernel
theorem dX6_takeNumber_84 : decode cX6_takeNumber 84 = .ok (.iadd, 1) := by decide +kernel
theorem dX6_takeNumber_85 : decode cX6_takeNumber 85 = .ok (.putfield 19, 3) := by decide +kernel
theorem dX6_takeNumber_88 : decode cX6_takeNumber 88 = .ok (.iload 4, 2) := by decide +kernel
theorem dX6_takeNumber_90 : decode cX6_takeNumber 90 = .ok (.ireturn, 1) := by decide +kernel
theorem dX6_figuresHere_0 : decode cX6_figuresHere 0 = .ok (.iconst 0, 1) := by decide +kernel
theorem dX6_figuresHere_1 : decode cX6_figuresHere 1 = .ok (.istore_n 1, 1) := by decide +kernel
theorem dX6_figuresHere_2 : decode cX6_figuresHere 2 = .ok (.iload_n 1, 1) := by decide +kernel
theorem dX6_figuresHere_3 : decode cX6_figuresHere 3 = .ok (.iconst 3, 1) := by decide +kernel
theorem dX6_figuresHere_4 : decode cX6_figuresHere 4 = .ok (.if_icmp .ge 25, 3) := by decide +kernel
theorem dX6_figuresHere_7 : decode cX6_figuresHere 7 = .ok (.aload_n 0, 1) := by decide +kernel
theorem dX6_figuresHere_8 : decode cX6_figuresHere 8 = .ok (.aload_n 0, 1) := by decide +kernel
theorem dX6_figuresHere_9 : decode cX6_figuresHere 9 = .ok (.getfield 19, 3) := by decide +kernel
theorem dX6_figuresHere_12 : decode cX6_figuresHere 12 = .ok (.iload_n 1, 1) := by decide +kernel
theorem dX6_figuresHere_13 : decode cX6_figuresHere 13 = .ok (.iadd, 1) := by decide +kernel
theorem dX6_figuresHere_14 : decode cX6_figuresHere 14 = .ok (.invokevirtual 102, 3) := by decide +kernel
theorem dX6_figuresHere_17 : decode cX6_figuresHere 17 = .ok (.invokestatic 108, 3) := by decide +kernel
theorem dX6_figuresHere_20 : decode cX6_figuresHere 20 = .ok (.ifCond .eq 9, 3) := by decide +kernel
theorem dX6_figuresHere_23 : decode cX6_figuresHere 23 = .ok (.iinc 1 1, 3) := by decide +kernel
theorem dX6_figuresHere_26 : decode cX6_figuresHere 26 = .ok (.goto (-24), 3) := by decide +kernel
theorem dX6_figuresHere_29 : decode cX6_figuresHere 29 = .ok (.iload_n 1, 1) := by decide +kernel
theorem dX6_figuresHere_30 : decode cX6_figuresHere 30 = .ok (.ireturn, 1) := by decide +kernel
theorem dX6_isFigure_0 : decode cX6_isFigure 0 = .ok (.iload_n 0, 1) := by decide +kernel
theorem dX6_isFigure_1 : decode cX6_isFigure 1 = .ok (.bipush 48, 2) := by decide +kernel
theorem dX6_isFigure_3 : decode cX6_isFigure 3 = .ok (.if_icmp .lt 13, 3) := by decide +kernel
theorem dX6_isFigure_6 : decode cX6_isFigure 6 = .ok (.iload_n 0, 1) := by decide +kernel
theorem dX6_isFigure_7 : decode cX6_isFigure 7 = .ok (.bipush 57, 2) := by decide +kernel
theorem dX6_isFigure_9 : decode cX6_isFigure 9 = .ok (.if_icmp .gt 7, 3) := by decide +kernel
theorem dX6_isFigure_12 : decode cX6_isFigure 12 = .ok (.iconst 1, 1) := by decide +kernel
theorem dX6_isFigure_13 : decode cX6_isFigure 13 = .ok (.goto 4, 3) := by decide +kernel
theorem dX6_isFigure_16 : decode cX6_isFigure 16 = .ok (.iconst 0, 1) := by decide +kernel
theorem dX6_isFigure_17 : decode cX6_isFigure 17 = .ok (.ireturn, 1) := by decide +kernel
theorem dX6_hasFault_0 : decode cX6_hasFault 0 = .ok (.aload_n 0, 1) := by decide +kernel
theorem dX6_hasFault_1 : decode cX6_hasFault 1 = .ok (.iload_n 1, 1) := by decide +kernel
theorem dX6_hasFault_2 : decode cX6_hasFault 2 = .ok (.putfield 22, 3) := by decide +kernel
theorem dX6_hasFault_5 : decode cX6_hasFault 5 = .ok (.iconst 0, 1) := by decide +kernel
theorem dX6_hasFault_6 : decode cX6_hasFault 6 = .ok (.ireturn, 1) := by decide +kernel
theorem dX7_init_0 : decode cX7_init 0 = .ok (.aload_n 0, 1) := by decide +kernel
theorem dX7_init_1 : decode cX7_init 1 = .ok (.invokespecial 1, 3) := by decide +kernel
theorem dX7_init_4 : decode cX7_init 4 = .ok (.aload_n 0, 1) := by decide +kernel
theorem dX7_init_5 : decode cX7_init 5 = .ok (.bipush 8, 2) := by decide +kernel
theorem dX7_init_7 : decode cX7_init 7 = .ok (.anewarray 9, 3) := by decide +kernel
theorem dX7_init_10 : decode cX7_init 10 = .ok (.putfield 11, 3) := by decide +kernel
theorem dX7_init_13 : decode cX7_init 13 = .ok (.aload_n 0, 1) := by decide +kernel
theorem dX7_init_14 : decode cX7_init 14 = .ok (.new 15, 3) := by decide +kernel
theorem dX7_init_17 : decode cX7_init 17 = .ok (.dup, 1) := by decide +kernel
theorem dX7_init_18 : decode cX7_init 18 = .ok (.invokespecial 17, 3) := by decide +kernel
theorem dX7_init_21 : decode cX7_init 21 = .ok (.putfield 18, 3) := by decide +kernel
theorem dX7_init_24 : decode cX7_init 24 = .ok (.aload_n 0, 1) := by decide +kernel
theorem dX7_init_25 : decode cX7_init 25 = .ok (.new 22, 3) := by decide +kernel
theorem dX7_init_28 : decode cX7_init 28 = .ok (.dup, 1) := by decide +kernel
theorem dX7_init_29 : decode cX7_init 29 = .ok (.invokespecial 24, 3) := by decide +kernel
theorem dX7_init_32 : decode cX7_init 32 = .ok (.putfield 25, 3) := by decide +kernel
theorem dX7_init_35 : decode cX7_init 35 = .ok (.aload_n 0, 1) := by decide +kernel
theorem dX7_init_36 : decode cX7_init 36 = .ok (.aload_n 0, 1) := by decide +kernel
theorem dX7_init_37 : decode cX7_init 37 = .ok (.getfield 25, 3) := by decide +kernel
theorem dX7_init_40 : decode cX7_init 40 = .ok (.getfield 29, 3) := by decide +kernel
theorem dX7_init_43 : decode cX7_init 43 = .ok (.putfield 33, 3) := by decide +kernel
theorem dX7_init_46 : decode cX7_init 46 = .ok (.aload_n 0, 1) := by decide +kernel
theorem dX7_init_47 : decode cX7_init 47 = .ok (.aload_n 0, 1) := by decide +kernel
theorem dX7_init_48 : decode cX7_init 48 = .ok (.getfield 25, 3) := by decide +kernel
theorem dX7_init_51 : decode cX7_init 51 = .ok (.getfield 34, 3) := by decide +kernel
theorem dX7_init_54 : decode cX7_init 54 = .ok (.putfield 37, 3) := by decide +kernel
theorem dX7_init_57 : decode cX7_init 57 = .ok (.aload_n 0, 1) := by decide +kernel
theorem dX7_init_58 : decode cX7_init 58 = .ok (.new 38, 3) := by decide +kernel
theorem dX7_init_61 : decode cX7_init 61 = .ok (.dup, 1) := by decide +kernel
theorem dX7_init_62 : decode cX7_init 62 = .ok (.invokespecial 40, 3) := by decide +kernel
theorem dX7_init_65 : decode cX7_init 65 = .ok (.putfield 41, 3) := by decide +kernel
theorem dX7_init_68 : decode cX7_init 68 = .ok (.aload_n 0, 1) := by decide +kernel
theorem dX7_init_69 : decode cX7_init 69 = .ok (.iconst 2, 1) := by decide +kernel
theorem dX7_init_70 : decode cX7_init 70 = .ok (.anewarray 45, 3) := by decide +kernel
theorem dX7_init_73 : decode cX7_init 73 = .ok (.putfield 47, 3) := by decide +kernel
theorem dX7_init_76 : decode cX7_init 76 = .ok (.aload_n 0, 1) := by decide +kernel
theorem dX7_init_77 : decode cX7_init 77 = .ok (.new 51, 3) := by decide +kernel
theorem dX7_init_80 : decode cX7_init 80 = .ok (.dup, 1) := by decide +kernel
theorem dX7_init_81 : decode cX7_init 81 = .ok (.invokespecial 53, 3) := by decide +kernel
theorem dX7_init_84 : decode cX7_init 84 = .ok (.putfield 54, 3) := by decide +kernel
theorem dX7_init_87 : decode cX7_init 87 = .ok (.aload_n 0, 1) := by decide +kernel
theorem dX7_init_88 : decode cX7_init 88 = .ok (.iconst 0, 1) := by decide +kernel
theorem dX7_init_89 : decode cX7_init 89 = .ok (.putfield 58, 3) := by decide +kernel
theorem dX7_init_92 : decode cX7_init 92 = .ok (.aload_n 0, 1) := by decide +kernel
theorem dX7_init_93 : decode cX7_init 93 = .ok (.iconst 0, 1) := by decide +kernel
theorem dX7_init_94 : decode cX7_init 94 = .ok (.putfield 62, 3) := by decide +kernel
theorem dX7_init_97 : decode cX7_init 97 = .ok (.iconst 0, 1) := by decide +kernel
theorem dX7_init_98 : decode cX7_init 98 = .ok (.istore_n 1, 1) := by decide +kernel
theorem dX7_init_99 : decode cX7_init 99 = .ok (.iload_n 1, 1) := by decide +kernel
theorem dX7_init_100 : decode cX7_init 100 = .ok (.bipush 8, 2) := by decide +kernel
theorem dX7_init_102 : decode cX7_init 102 = .ok (.if_icmp .ge 22, 3) := by decide +kernel
theorem dX7_init_105 : decode cX7_init 105 = .ok (.aload_n 0, 1) := by decide +kernel
theorem dX7_init_106 : decode cX7_init 106 = .ok (.getfield 11, 3) := by decide +kernel
theorem dX7_init_109 : decode cX7_init 109 = .ok (.iload_n 1, 1) := by decide +kernel
theorem dX7_init_110 : decode cX7_init 110 = .ok (.new 9, 3) := by decide +kernel
theorem dX7_init_113 : decode cX7_init 113 = .ok (.dup, 1) := by decide +kernel
theorem dX7_init_114 : decode cX7_init 114 = .ok (.invokespecial 65, 3) := by decide +kernel
theorem dX7_init_117 : decode cX7_init 117 = .ok (.aastore, 1) := by decide +kernel
theorem dX7_init_118 : decode cX7_init 118 = .ok (.iinc 1 1, 3) := by decide +kernel
theorem dX7_init_121 : decode cX7_init 121 = .ok (.goto (-22), 3) := by decide +kernel
theorem dX7_init_124 : decode cX7_init 124 = .ok (.iconst 0, 1) := by decide +kernel
theorem dX7_init_125 : decode cX7_init 125 = .ok (.istore_n 1, 1) := by decide +kernel
theorem dX7_init_126 : decode cX7_init 126 = .ok (.iload_n 1, 1) := by decide +kernel
theorem dX7_init_127 : decode cX7_init 127 = .ok (.iconst 2, 1) := by decide +kernel
theorem dX7_init_128 : decode cX7_init 128 = .ok (.if_icmp .ge 22, 3) := by decide +kernel
theorem dX7_init_131 : decode cX7_init 131 = .ok (.aload_n 0, 1) := by decide +kernel
theorem dX7_init_132 : decode cX7_init 132 = .ok (.getfield 47, 3) := by decide +kernel
theorem dX7_init_135 : decode cX7_init 135 = .ok (.iload_n 1, 1) := by decide +kernel
theorem dX7_init_136 : decode cX7_init 136 = .ok (.new 45, 3) := by decide +kernel
theorem dX7_init_139 : decode cX7_init 139 = .ok (.dup, 1) := by decide +kernel
theorem dX7_init_140 : decode cX7_init 140 = .ok (.invokespecial 66, 3) := by decide +kernel
theorem dX7_init_143 : decode cX7_init 143 = .ok (.aastore, 1) := by decide +kernel
theorem dX7_init_144 : decode cX7_init 144 = .ok (.iinc 1 1, 3) := by decide +kernel
theorem dX7_init_147 : decode cX7_init 147 = .ok (.goto (-21), 3) := by decide +kernel
theorem dX7_init_150 : decode cX7_init 150 = .ok (.return_, 1) := by decide +kernel
theorem dX7_row_0 : decode cX7_row 0 = .ok (.iload_n 1, 1) := by decide +kernel
theorem dX7_row_1 : decode cX7_row 1 = .ok (.invokestatic 67, 3) := by decide +kernel
theorem dX7_row_4 : decode cX7_row 4 = .ok (.ifCond .eq 18, 3) := by decide +kernel
theorem dX7_row_7 : decode cX7_row 7 = .ok (.iload_n 2, 1) := by decide +kernel
theorem dX7_row_8 : decode cX7_row 8 = .ok (.iconst 0, 1) := by decide +kernel
theorem dX7_row_9 : decode cX7_row 9 = .ok (.iconst 2, 1) := by decide +kernel
theorem dX7_row_10 : decode cX7_row 10 = .ok (.invokestatic 71, 3) := by decide +kernel
theorem dX7_row_13 : decode cX7_row 13 = .ok (.ifCond .eq 9, 3) := by decide +kernel
theorem dX7_row_16 : decode cX7_row 16 = .ok (.iload_n 3, 1) := by decide +kernel
theorem dX7_row_17 : decode cX7_row 17 = .ok (.bipush 40, 2) := by decide +kernel
theorem dX7_row_19 : decode cX7_row 19 = .ok (.if_icmp .le 6, 3) := by decide +kernel
theorem dX7_row_22 : decode cX7_row 22 = .ok (.ldc 75, 2) := by decide +kernel
theorem dX7_row_24 : decode cX7_row 24 = .ok (.ireturn, 1) := by decide +kernel
theorem dX7_row_25 : decode cX7_row 25 = .ok (.iload_n 3, 1) := by decide +kernel
theorem dX7_row_26 : decode cX7_row 26 = .ok (.ifCond .ge 9, 3) := by decide +kernel
theorem dX7_row_29 : decode cX7_row 29 = .ok (.aload_n 0, 1) := by decide +kernel
theorem dX7_row_30 : decode cX7_row 30 = .ok (.iconst 4, 1) := by decide +kernel
theorem dX7_row_31 : decode cX7_row 31 = .ok (.invokevirtual 76, 3) := by decide +kernel
theorem dX7_row_34 : decode cX7_row 34 = .ok (.ireturn, 1) := by decide +kernel
theorem dX7_row_35 : decode cX7_row 35 = .ok (.aload_n 0, 1) := by decide +kernel
theorem dX7_row_36 : decode cX7_row 36 = .ok (.getfield 11, 3) := by decide +kernel
theorem dX7_row_39 : decode cX7_row 39 = .ok (.iload_n 1, 1) := by decide +kernel
theorem dX7_row_40 : decode cX7_row 40 = .ok (.aaload, 1) := by decide +kernel
theorem dX7_row_41 : decode cX7_row 41 = .ok (.iload_n 2, 1) := by decide +kernel
theorem dX7_row_42 : decode cX7_row 42 = .ok (.iload_n 3, 1) := by decide +kernel
theorem dX7_row_43 : decode cX7_row 43 = .ok (.invokevirtual 80, 3) := by decide +kernel
theorem dX7_row_46 : decode cX7_row 46 = .ok (.aload_n 0, 1) := by decide +kernel
theorem dX7_row_47 : decode cX7_row 47 = .ok (.iload_n 3, 1) := by decide +kernel
theorem dX7_row_48 : decode cX7_row 48 = .ok (.invokevirtual 84, 3) := by decide +kernel
theorem dX7_row_51 : decode cX7_row 51 = .ok (.ireturn, 1) := by decide +kernel
theorem dX7_set_0 : decode cX7_set 0 = .ok (.iload_n 1, 1) := by decide +kernel
theorem dX7_set_1 : decode cX7_set 1 = .ok (.invokestatic 67, 3) := by decide +kernel
theorem dX7_set_4 : decode cX7_set 4 = .ok (.ifCond .ne 6, 3) := by decide +kernel
theorem dX7_set_7 : decode cX7_set 7 = .ok (.ldc 75, 2) := by decide +kernel
theorem dX7_set_9 : decode cX7_set 9 = .ok (.ireturn, 1) := by decide +kernel
theorem dX7_set_10 : decode cX7_set 10 = .ok (.aload_n 0, 1) := by decide +kernel
theorem dX7_set_11 : decode cX7_set 11 = .ok (.getfield 11, 3) := by decide +kernel
theorem dX7_set_14 : decode cX7_set 14 = .ok (.iload_n 1, 1) := by decide +kernel
theorem dX7_set_15 : decode cX7_set 15 = .ok (.aaload, 1) := by decide +kernel
theorem dX7_set_16 : decode cX7_set 16 = .ok (.astore 4, 2) := by decide +kernel
theorem dX7_set_18 : decode cX7_set 18 = .ok (.aload 4, 2) := by decide +kernel
theorem dX7_set_20 : decode cX7_set 20 = .ok (.invokevirtual 87, 3) := by decide +kernel
theorem dX7_set_23 : decode cX7_set 23 = .ok (.ifCond .eq 9, 3) := by decide +kernel
theorem dX7_set_26 : decode cX7_set 26 = .ok (.aload_n 0, 1) := by decide +kernel
theorem dX7_set_27 : decode cX7_set 27 = .ok (.iconst 1, 1) := by decide +kernel
theorem dX7_set_28 : decode cX7_set 28 = .ok (.invokevirtual 76, 3) := by decide +kernel
theorem dX7_set_31 : decode cX7_set 31 = .ok (.ireturn, 1) := by decide +kernel
theorem dX7_set_32 : decode cX7_set 32 = .ok (.aload 4, 2) := by decide +kernel
theorem dX7_set_34 : decode cX7_set 34 = .ok (.iload_n 2, 1) := by decide +kernel
theorem dX7_set_35 : decode cX7_set 35 = .ok (.iconst 1, 1) := by decide +kernel
theorem dX7_set_36 : decode cX7_set 36 = .ok (.invokevirtual 91, 3) := by decide +kernel
theorem dX7_set_39 : decode cX7_set 39 = .ok (.ifCond .ne 9, 3) := by decide +kernel
theorem dX7_set_42 : decode cX7_set 42 = .ok (.aload_n 0, 1) := by decide +kernel
theorem dX7_set_43 : decode cX7_set 43 = .ok (.iconst 2, 1) := by decide +kernel
theorem dX7_set_44 : decode cX7_set 44 = .ok (.invokevirtual 76, 3) := by decide +kernel
theorem dX7_set_47 : decode cX7_set 47 = .ok (.ireturn, 1) := by decide +kernel
theorem dX7_set_48 : decode cX7_set 48 = .ok (.aload_n 0, 1) := by decide +kernel
theorem dX7_set_49 : decode cX7_set 49 = .ok (.aload 4, 2) := by decide +kernel
theorem dX7_set_51 : decode cX7_set 51 = .ok (.iload_n 2, 1) := by decide +kernel
theorem dX7_set_52 : decode cX7_set 52 = .ok (.iload_n 3, 1) := by decide +kernel
theorem dX7_set_53 : decode cX7_set 53 = .ok (.invokevirtual 95, 3) := by decide +kernel
theorem dX7_set_56 : decode cX7_set 56 = .ok (.invokevirtual 84, 3) := by decide +kernel
theorem dX7_set_59 : decode cX7_set 59 = .ok (.ireturn, 1) := by decide +kernel
theorem dX7_copy_0 : decode cX7_copy 0 = .ok (.iload_n 1, 1) := by decide +kernel
theorem dX7_copy_1 : decode cX7_copy 1 = .ok (.invokestatic 67, 3) := by decide +kernel
theorem dX7_copy_4 : decode cX7_copy 4 = .ok (.ifCond .eq 10, 3) := by decide +kernel
theorem dX7_copy_7 : decode cX7_copy 7 = .ok (.iload_n 3, 1) := by decide +kernel
theorem dX7_copy_8 : decode cX7_copy 8 = .ok (.invokestatic 67, 3) := by decide +kernel
theorem dX7_copy_11 : decode cX7_copy 11 = .ok (.ifCond .ne 6, 3) := by decide +kernel
theorem dX7_copy_14 : decode cX7_copy 14 = .ok (.ldc 75, 2) := by decide +kernel
theorem dX7_copy_16 : decode cX7_copy 16 = .ok (.ireturn, 1) := by decide +kernel
theorem dX7_copy_17 : decode cX7_copy 17 = .ok (.aload_n 0, 1) := by decide +kernel
theorem dX7_copy_18 : decode cX7_copy 18 = .ok (.getfield 11, 3) := by decide +kernel
theorem dX7_copy_21 : decode cX7_copy 21 = .ok (.iload_n 1, 1) := by decide +kernel
theorem dX7_copy_22 : decode cX7_copy 22 = .ok (.aaload, 1) := by decide +kernel
theorem dX7_copy_23 : decode cX7_copy 23 = .ok (.astore 6, 2) := by decide +kernel
theorem dX7_copy_25 : decode cX7_copy 25 = .ok (.aload_n 0, 1) := by decide +kernel
theorem dX7_copy_26 : decode cX7_copy 26 = .ok (.getfield 11, 3) := by decide +kernel
theorem dX7_copy_29 : decode cX7_copy 29 = .ok (.iload_n 3, 1) := by decide +kernel
theorem dX7_copy_30 : decode cX7_copy 30 = .ok (.aaload, 1) := by decide +kernel
theorem dX7_copy_31 : decode cX7_copy 31 = .ok (.astore 7, 2) := by decide +kernel
theorem dX7_copy_33 : decode cX7_copy 33 = .ok (.aload 6, 2) := by decide +kernel
theorem dX7_copy_35 : decode cX7_copy 35 = .ok (.invokevirtual 87, 3) := by decide +kernel
theorem dX7_copy_38 : decode cX7_copy 38 = .ok (.ifCond .ne 11, 3) := by decide +kernel
theorem dX7_copy_41 : decode cX7_copy 41 = .ok (.aload 7, 2) := by decide +kernel
theorem dX7_copy_43 : decode cX7_copy 43 = .ok (.invokevirtual 87, 3) := by decide +kernel
theorem dX7_copy_46 : decode cX7_copy 46 = .ok (.ifCond .eq 9, 3) := by decide +kernel
theorem dX7_copy_49 : decode cX7_copy 49 = .ok (.aload_n 0, 1) := by decide +kernel
theorem dX7_copy_50 : decode cX7_copy 50 = .ok (.iconst 1, 1) := by decide +kernel
theorem dX7_copy_51 : decode cX7_copy 51 = .ok (.invokevirtual 76, 3) := by decide +kernel
theorem dX7_copy_54 : decode cX7_copy 54 = .ok (.ireturn, 1) := by decide +kernel
theorem dX7_copy_55 : decode cX7_copy 55 = .ok (.aload 6, 2) := by decide +kernel
theorem dX7_copy_57 : decode cX7_copy 57 = .ok (.getfield 99, 3) := by decide +kernel
theorem dX7_copy_60 : decode cX7_copy 60 = .ok (.aload 7, 2) := by decide +kernel
theorem dX7_copy_62 : decode cX7_copy 62 = .ok (.getfield 99, 3) := by decide +kernel
theorem dX7_copy_65 : decode cX7_copy 65 = .ok (.if_icmp .eq 9, 3) := by decide +kernel
theorem dX7_copy_68 : decode cX7_copy 68 = .ok (.aload_n 0, 1) := by decide +kernel
theorem dX7_copy_69 : decode cX7_copy 69 = .ok (.iconst 5, 1) := by decide +kernel
theorem dX7_copy_70 : decode cX7_copy 70 = .ok (.invokevirtual 76, 3) := by decide +kernel
theorem dX7_copy_73 : decode cX7_copy 73 = .ok (.ireturn, 1) := by decide +kernel
theorem dX7_copy_74 : decode cX7_copy 74 = .ok (.aload 6, 2) := by decide +kernel
theorem dX7_copy_76 : decode cX7_copy 76 = .ok (.iload_n 2, 1) := by decide +kernel
theorem dX7_copy_77 : decode cX7_copy 77 = .ok (.iload 5, 2) := by decide +kernel
theorem dX7_copy_79 : decode cX7_copy 79 = .ok (.invokevirtual 91, 3) := by decide +kernel
theorem dX7_copy_82 : decode cX7_copy 82 = .ok (.ifCond .eq 15, 3) := by decide +kernel
theorem dX7_copy_85 : decode cX7_copy 85 = .ok (.aload 7, 2) := by decide +kernel
theorem dX7_copy_87 : decode cX7_copy 87 = .ok (.iload 4, 2) := by decide +kernel
theorem dX7_copy_89 : decode cX7_copy 89 = .ok (.iload 5, 2) := by decide +kernel
theorem dX7_copy_91 : decode cX7_copy 91 = .ok (.invokevirtual 91, 3) := by decide +kernel
theorem dX7_copy_94 : decode cX7_copy 94 = .ok (.ifCond .ne 9, 3) := by decide +kernel
theorem dX7_copy_97 : decode cX7_copy 97 = .ok (.aload_n 0, 1) := by decide +kernel
theorem dX7_copy_98 : decode cX7_copy 98 = .ok (.iconst 2, 1) := by decide +kernel
theorem dX7_copy_99 : decode cX7_copy 99 = .ok (.invokevirtual 76, 3) := by decide +kernel
theorem dX7_copy_102 : decode cX7_copy 102 = .ok (.ireturn, 1) := by decide +kernel
theorem dX7_copy_103 : decode cX7_copy 103 = .ok (.aload 6, 2) := by decide +kernel
theorem dX7_copy_105 : decode cX7_copy 105 = .ok (.getfield 102, 3) := by decide +kernel
theorem dX7_copy_108 : decode cX7_copy 108 = .ok (.iload_n 2, 1) := by decide +kernel
theorem dX7_copy_109 : decode cX7_copy 109 = .ok (.aload 7, 2) := by decide +kernel
theorem dX7_copy_111 : decode cX7_copy 111 = .ok (.getfield 102, 3) := by decide +kernel
theorem dX7_copy_114 : decode cX7_copy 114 = .ok (.iload 4, 2) := by decide +kernel
theorem dX7_copy_116 : decode cX7_copy 116 = .ok (.iload 5, 2) := by decide +kernel
theorem dX7_copy_118 : decode cX7_copy 118 = .ok (.invokestatic 106, 3) := by decide +kernel
theorem dX7_copy_121 : decode cX7_copy 121 = .ok (.aload_n 0, 1) := by decide +kernel
theorem dX7_copy_122 : decode cX7_copy 122 = .ok (.iload 5, 2) := by decide +kernel
theorem dX7_copy_124 : decode cX7_copy 124 = .ok (.invokevirtual 84, 3) := by decide +kernel
theorem dX7_copy_127 : decode cX7_copy 127 = .ok (.ireturn, 1) := by decide +kernel
theorem dX7_drop_0 : decode cX7_drop 0 = .ok (.iload_n 1, 1) := by decide +kernel
theorem dX7_drop_1 : decode cX7_drop 1 = .ok (.invokestatic 67, 3) := by decide +kernel
theorem dX7_drop_4 : decode cX7_drop 4 = .ok (.ifCond .ne 6, 3) := by decide +kernel
theorem dX7_drop_7 : decode cX7_drop 7 = .ok (.ldc 75, 2) := by decide +kernel
theorem dX7_drop_9 : decode cX7_drop 9 = .ok (.ireturn, 1) := by decide +kernel
theorem dX7_drop_10 : decode cX7_drop 10 = .ok (.aload_n 0, 1) := by decide +kernel
theorem dX7_drop_11 : decode cX7_drop 11 = .ok (.getfield 11, 3) := by decide +kernel
theorem dX7_drop_14 : decode cX7_drop 14 = .ok (.iload_n 1, 1) := by decide +kernel
theorem dX7_drop_15 : decode cX7_drop 15 = .ok (.aaload, 1) := by decide +kernel
theorem dX7_drop_16 : decode cX7_drop 16 = .ok (.astore_n 2, 1) := by decide +kernel
theorem dX7_drop_17 : decode cX7_drop 17 = .ok (.aload_n 2, 1) := by decide +kernel
theorem dX7_drop_18 : decode cX7_drop 18 = .ok (.invokevirtual 87, 3) := by decide +kernel
theorem dX7_drop_21 : decode cX7_drop 21 = .ok (.ifCond .eq 9, 3) := by decide +kernel
theorem dX7_drop_24 : decode cX7_drop 24 = .ok (.aload_n 0, 1) := by decide +kernel
theorem dX7_drop_25 : decode cX7_drop 25 = .ok (.iconst 1, 1) := by decide +kernel
theorem dX7_drop_26 : decode cX7_drop 26 = .ok (.invokevirtual 76, 3) := by decide +kernel
theorem dX7_drop_29 : decode cX7_drop 29 = .ok (.ireturn, 1) := by decide +kernel
theorem dX7_drop_30 : decode cX7_drop 30 = .ok (.aload_n 2, 1) := by decide +kernel
theorem dX7_drop_31 : decode cX7_drop 31 = .ok (.getfield 112, 3) := by decide +kernel
theorem dX7_drop_34 : decode cX7_drop 34 = .ok (.istore_n 3, 1) := by decide +kernel
theorem dX7_drop_35 : decode cX7_drop 35 = .ok (.aload_n 2, 1) := by decide +kernel
theorem dX7_drop_36 : decode cX7_drop 36 = .ok (.invokevirtual 115, 3) := by decide +kernel
theorem dX7_drop_39 : decode cX7_drop 39 = .ok (.aload_n 0, 1) := by decide +kernel
theorem dX7_drop_40 : decode cX7_drop 40 = .ok (.iload_n 3, 1) := by decide +kernel
theorem dX7_drop_41 : decode cX7_drop 41 = .ok (.invokevirtual 84, 3) := by decide +kernel
theorem dX7_drop_44 : decode cX7_drop 44 = .ok (.ireturn, 1) := by decide +kernel
theorem dX7_feed_0 : decode cX7_feed 0 = .ok (.iload_n 1, 1) := by decide +kernel
theorem dX7_feed_1 : decode cX7_feed 1 = .ok (.iconst 0, 1) := by decide +kernel
theorem dX7_feed_2 : decode cX7_feed 2 = .ok (.sipush 255, 3) := by decide +kernel
theorem dX7_feed_5 : decode cX7_feed 5 = .ok (.invokestatic 71, 3) := by decide +kernel
theorem dX7_feed_8 : decode cX7_feed 8 = .ok (.ifCond .ne 6, 3) := by decide +kernel
theorem dX7_feed_11 : decode cX7_feed 11 = .ok (.ldc 75, 2) := by decide +kernel
theorem dX7_feed_13 : decode cX7_feed 13 = .ok (.ireturn, 1) := by decide +kernel
theorem dX7_feed_14 : decode cX7_feed 14 = .ok (.aload_n 0, 1) := by decide +kernel
theorem dX7_feed_15 : decode cX7_feed 15 = .ok (.getfield 18, 3) := by decide +kernel
theorem dX7_feed_18 : decode cX7_feed 18 = .ok (.getfield 118, 3) := by decide +kernel
theorem dX7_feed_21 : decode cX7_feed 21 = .ok (.bipush 100, 2) := by decide +kernel
theorem dX7_feed_23 : decode cX7_feed 23 = .ok (.if_icmp .lt 6, 3) := by decide +kernel
theorem dX7_feed_26 : decode cX7_feed 26 = .ok (.ldc 119, 2) := by decide +kernel
theorem dX7_feed_28 : decode cX7_feed 28 = .ok (.ireturn, 1) := by decide +kernel
theorem dX7_feed_29 : decode cX7_feed 29 = .ok (.aload_n 0, 1) := by decide +kernel
theorem dX7_feed_30 : decode cX7_feed 30 = .ok (.getfield 18, 3) := by decide +kernel
theorem dX7_feed_33 : decode cX7_feed 33 = .ok (.iload_n 1, 1) := by decide +kernel
theorem dX7_feed_34 : decode cX7_feed 34 = .ok (.invokevirtual 120, 3) := by decide +kernel
theorem dX7_feed_37 : decode cX7_feed 37 = .ok (.aload_n 0, 1) := by decide +kernel
theorem dX7_feed_38 : decode cX7_feed 38 = .ok (.getfield 18, 3) := by decide +kernel
theorem dX7_feed_41 : decode cX7_feed 41 = .ok (.getfield 118, 3) := by decide +kernel
theorem dX7_feed_44 : decode cX7_feed 44 = .ok (.ireturn, 1) := by decide +kernel
theorem dX7_roof_0 : decode cX7_roof 0 = .ok (.aload_n 0, 1) := by decide +kernel
theorem dX7_roof_1 : decode cX7_roof 1 = .ok (.getfield 18, 3) := by decide +kernel
theorem dX7_roof_4 : decode cX7_roof 4 = .ok (.aload_n 0, 1) := by decide +kernel
theorem dX7_roof_5 : decode cX7_roof 5 = .ok (.getfield 37, 3) := by decide +kernel
theorem dX7_roof_8 : decode cX7_roof 8 = .ok (.invokevirtual 124, 3) := by decide +kernel
theorem dX7_roof_11 : decode cX7_roof 11 = .ok (.istore_n 1, 1) := by decide +kernel
theorem dX7_roof_12 : decode cX7_roof 12 = .ok (.aload_n 0, 1) := by decide +kernel
theorem dX7_roof_13 : decode cX7_roof 13 = .ok (.getfield 18, 3) := by decide +kernel
theorem dX7_roof_16 : decode cX7_roof 16 = .ok (.iconst 0, 1) := by decide +kernel
theorem dX7_roof_17 : decode cX7_roof 17 = .ok (.putfield 118, 3) := by decide +kernel
theorem dX7_roof_20 : decode cX7_roof 20 = .ok (.iload_n 1, 1) := by decide +kernel
theorem dX7_roof_21 : decode cX7_roof 21 = .ok (.ifCond .ne 25, 3) := by decide +kernel
theorem dX7_roof_24 : decode cX7_roof 24 = .ok (.aload_n 0, 1) := by decide +kernel
theorem dX7_roof_25 : decode cX7_roof 25 = .ok (.aload_n 0, 1) := by decide +kernel
theorem dX7_roof_26 : decode cX7_roof 26 = .ok (.getfield 18, 3) := by decide +kernel
theorem dX7_roof_29 : decode cX7_roof 29 = .ok (.getfield 128, 3) := by decide +kernel
theorem dX7_roof_32 : decode cX7_roof 32 = .ok (.putfield 58, 3) := by decide +kernel
theorem dX7_roof_35 : decode cX7_roof 35 = .ok (.ldc 131, 2) := by decide +kernel
theorem dX7_roof_37 : decode cX7_roof 37 = .ok (.aload_n 0, 1) := by decide +kernel
theorem dX7_roof_38 : decode cX7_roof 38 = .ok (.getfield 18, 3) := by decide +kernel
theorem dX7_roof_41 : decode cX7_roof 41 = .ok (.getfield 132, 3) := by decide +kernel
theorem dX7_roof_44 : decode cX7_roof 44 = .ok (.isub, 1) := by decide +kernel
theorem dX7_roof_45 : decode cX7_roof 45 = .ok (.ireturn, 1) := by decide +kernel
theorem dX7_roof_46 : decode cX7_roof 46 = .ok (.aload_n 0, 1) := by decide +kernel
theorem dX7_roof_47 : decode cX7_roof 47 = .ok (.getfield 33, 3) := by decide +kernel
theorem dX7_roof_50 : decode cX7_roof 50 = .ok (.aload_n 0, 1) := by decide +kernel
theorem dX7_roof_51 : decode cX7_roof 51 = .ok (.getfield 37, 3) := by decide +kernel
theorem dX7_roof_54 : decode cX7_roof 54 = .ok (.invokevirtual 135, 3) := by decide +kernel
theorem dX7_roof_57 : decode cX7_roof 57 = .ok (.aload_n 0, 1) := by decide +kernel
theorem dX7_roof_58 : decode cX7_roof 58 = .ok (.getfield 41, 3) := by decide +kernel
theorem dX7_roof_61 : decode cX7_roof 61 = .ok (.invokevirtual 139, 3) := by decide +kernel
theorem dX7_roof_64 : decode cX7_roof 64 = .ok (.aload_n 0, 1) := by decide +kernel
theorem dX7_roof_65 : decode cX7_roof 65 = .ok (.getfield 33, 3) := by decide +kernel
theorem dX7_roof_68 : decode cX7_roof 68 = .ok (.getfield 142, 3) := by decide +kernel
theorem dX7_roof_71 : decode cX7_roof 71 = .ok (.ireturn, 1) := by decide +kernel
theorem dX7_fault_0 : decode cX7_fault 0 = .ok (.aload_n 0, 1) := by decide +kernel
theorem dX7_fault_1 : decode cX7_fault 1 = .ok (.getfield 58, 3) := by decide +kernel
theorem dX7_fault_4 : decode cX7_fault 4 = .ok (.ireturn, 1) := by decide +kernel
theorem dX7_undo_0 : decode cX7_undo 0 = .ok (.aload_n 0, 1) := by decide +kernel
theorem dX7_undo_1 : decode cX7_undo 1 = .ok (.getfield 41, 3) := by decide +kernel
theorem dX7_undo_4 : decode cX7_undo 4 = .ok (.getfield 145, 3) := by decide +kernel
theorem dX7_undo_7 : decode cX7_undo 7 = .ok (.ifCond .ne 6, 3) := by decide +kernel
theorem dX7_undo_10 : decode cX7_undo 10 = .ok (.ldc 148, 2) := by decide +kernel
theorem dX7_undo_12 : decode cX7_undo 12 = .ok (.ireturn, 1) := by decide +kernel
theorem dX7_undo_13 : decode cX7_undo 13 = .ok (.aload_n 0, 1) := by decide +kernel
theorem dX7_undo_14 : decode cX7_undo 14 = .ok (.getfield 41, 3) := by decide +kernel
theorem dX7_undo_17 : decode cX7_undo 17 = .ok (.aload_n 0, 1) := by decide +kernel
theorem dX7_undo_18 : decode cX7_undo 18 = .ok (.getfield 33, 3) := by decide +kernel
theorem dX7_undo_21 : decode cX7_undo 21 = .ok (.invokevirtual 149, 3) := by decide +kernel
theorem dX7_undo_24 : decode cX7_undo 24 = .ok (.aload_n 0, 1) := by decide +kernel
theorem dX7_undo_25 : decode cX7_undo 25 = .ok (.getfield 41, 3) := by decide +kernel
theorem dX7_undo_28 : decode cX7_undo 28 = .ok (.getfield 145, 3) := by decide +kernel
theorem dX7_undo_31 : decode cX7_undo 31 = .ok (.ireturn, 1) := by decide +kernel
theorem dX7_hours_0 : decode cX7_hours 0 = .ok (.aload_n 0, 1) := by decide +kernel
theorem dX7_hours_1 : decode cX7_hours 1 = .ok (.getfield 33, 3) := by decide +kernel
theorem dX7_hours_4 : decode cX7_hours 4 = .ok (.invokevirtual 152, 3) := by decide +kernel
theorem dX7_hours_7 : decode cX7_hours 7 = .ok (.ifCond .ne 6, 3) := by decide +kernel
theorem dX7_hours_10 : decode cX7_hours 10 = .ok (.ldc 148, 2) := by decide +kernel
theorem dX7_hours_12 : decode cX7_hours 12 = .ok (.ireturn, 1) := by decide +kernel
theorem dX7_hours_13 : decode cX7_hours 13 = .ok (.iload_n 1, 1) := by decide +kernel
theorem dX7_hours_14 : decode cX7_hours 14 = .ok (.iconst 1, 1) := by decide +kernel
theorem dX7_hours_15 : decode cX7_hours 15 = .ok (.bipush 24, 2) := by decide +kernel
theorem dX7_hours_17 : decode cX7_hours 17 = .ok (.invokestatic 71, 3) := by decide +kernel
theorem dX7_hours_20 : decode cX7_hours 20 = .ok (.ifCond .ne 6, 3) := by decide +kernel
theorem dX7_hours_23 : decode cX7_hours 23 = .ok (.ldc 75, 2) := by decide +kernel
theorem dX7_hours_25 : decode cX7_hours 25 = .ok (.ireturn, 1) := by decide +kernel
theorem dX7_hours_26 : decode cX7_hours 26 = .ok (.aload_n 0, 1) := by decide +kernel
theorem dX7_hours_27 : decode cX7_hours 27 = .ok (.getfield 33, 3) := by decide +kernel
theorem dX7_hours_30 : decode cX7_hours 30 = .ok (.getfield 155, 3) := by decide +kernel
theorem dX7_hours_33 : decode cX7_hours 33 = .ok (.iload_n 1, 1) := by decide +kernel
theorem dX7_hours_34 : decode cX7_hours 34 = .ok (.iadd, 1) := by decide +kernel
theorem dX7_hours_35 : decode cX7_hours 35 = .ok (.sipush 999, 3) := by decide +kernel
theorem dX7_hours_38 : decode cX7_hours 38 = .ok (.if_icmp .le 6, 3) := by decide +kernel
theorem dX7_hours_41 : decode cX7_hours 41 = .ok (.ldc 119, 2) := by decide +kernel
theorem dX7_hours_43 : decode cX7_hours 43 = .ok (.ireturn, 1) := by decide +kernel
theorem dX7_hours_44 : decode cX7_hours 44 = .ok (.iconst 0, 1) := by decide +kernel
theorem dX7_hours_45 : decode cX7_hours 45 = .ok (.istore_n 2, 1) := by decide +kernel
theorem dX7_hours_46 : decode cX7_hours 46 = .ok (.iload_n 2, 1) := by decide +kernel
theorem dX7_hours_47 : decode cX7_hours 47 = .ok (.iload_n 1, 1) := by decide +kernel
theorem dX7_hours_48 : decode cX7_hours 48 = .ok (.if_icmp .ge 35, 3) := by decide +kernel
theorem dX7_hours_51 : decode cX7_hours 51 = .ok (.aload_n 0, 1) := by decide +kernel
theorem dX7_hours_52 : decode cX7_hours 52 = .ok (.getfield 41, 3) := by decide +kernel
theorem dX7_hours_55 : decode cX7_hours 55 = .ok (.aload_n 0, 1) := by decide +kernel
theorem dX7_hours_56 : decode cX7_hours 56 = .ok (.getfield 33, 3) := by decide +kernel
theorem dX7_hours_59 : decode cX7_hours 59 = .ok (.invokevirtual 158, 3) := by decide +kernel
theorem dX7_hours_62 : decode cX7_hours 62 = .ok (.aload_n 0, 1) := by decide +kernel
theorem dX7_hours_63 : decode cX7_hours 63 = .ok (.getfield 33, 3) := by decide +kernel
theorem dX7_hours_66 : decode cX7_hours 66 = .ok (.aload_n 0, 1) := by decide +kernel
theorem dX7_hours_67 : decode cX7_hours 67 = .ok (.getfield 33, 3) := by decide +kernel
theorem dX7_hours_70 : decode cX7_hours 70 = .ok (.iconst 0, 1) := by decide +kernel
theorem dX7_hours_71 : decode cX7_hours 71 = .ok (.invokevirtual 161, 3) := by decide +kernel
theorem dX7_hours_74 : decode cX7_hours 74 = .ok (.invokevirtual 164, 3) := by decide +kernel
theorem dX7_hours_77 : decode cX7_hours 77 = .ok (.iinc 2 1, 3) := by decide +kernel
theorem dX7_hours_80 : decode cX7_hours 80 = .ok (.goto (-34), 3) := by decide +kernel
theorem dX7_hours_83 : decode cX7_hours 83 = .ok (.aload_n 0, 1) := by decide +kernel
theorem dX7_hours_84 : decode cX7_hours 84 = .ok (.getfield 33, 3) := by decide +kernel
theorem dX7_hours_87 : decode cX7_hours 87 = .ok (.invokevirtual 167, 3) := by decide +kernel
theorem dX7_hours_90 : decode cX7_hours 90 = .ok (.ireturn, 1) := by decide +kernel
theorem dX7_send_0 : decode cX7_send 0 = .ok (.aload_n 0, 1) := by decide +kernel
theorem dX7_send_1 : decode cX7_send 1 = .ok (.getfield 33, 3) := by decide +kernel
theorem dX7_send_4 : decode cX7_send 4 = .ok (.iload_n 1, 1) := by decide +kernel
theorem dX7_send_5 : decode cX7_send 5 = .ok (.invokevirtual 171, 3) := by decide +kernel
theorem dX7_send_8 : decode cX7_send 8 = .ok (.ifCond .eq 13, 3) := by decide +kernel
theorem dX7_send_11 : decode cX7_send 11 = .ok (.iload_n 2, 1) := by decide +kernel
theorem dX7_send_12 : decode cX7_send 12 = .ok (.iconst 1, 1) := by decide +kernel
theorem dX7_send_13 : decode cX7_send 13 = .ok (.bipush 40, 2) := by decide +kernel
theorem dX7_send_15 : decode cX7_send 15 = .ok (.invokestatic 71, 3) := by decide +kernel
theorem dX7_send_18 : decode cX7_send 18 = .ok (.ifCond .ne 6, 3) := by decide +kernel
theorem dX7_send_21 : decode cX7_send 21 = .ok (.ldc 75, 2) := by decide +kernel
theorem dX7_send_23 : decode cX7_send 23 = .ok (.ireturn, 1) := by decide +kernel
theorem dX7_send_24 : decode cX7_send 24 = .ok (.aload_n 0, 1) := by decide +kernel
theorem dX7_send_25 : decode cX7_send 25 = .ok (.getfield 33, 3) := by decide +kernel
theorem dX7_send_28 : decode cX7_send 28 = .ok (.getfield 174, 3) := by decide +kernel
theorem dX7_send_31 : decode cX7_send 31 = .ok (.iload_n 1, 1) := by decide +kernel
theorem dX7_send_32 : decode cX7_send 32 = .ok (.aaload, 1) := by decide +kernel
theorem dX7_send_33 : decode cX7_send 33 = .ok (.astore_n 3, 1) := by decide +kernel
theorem dX7_send_34 : decode cX7_send 34 = .ok (.aload_n 3, 1) := by decide +kernel
theorem dX7_send_35 : decode cX7_send 35 = .ok (.getfield 178, 3) := by decide +kernel
theorem dX7_send_38 : decode cX7_send 38 = .ok (.ifCond .eq 6, 3) := by decide +kernel
theorem dX7_send_41 : decode cX7_send 41 = .ok (.ldc 148, 2) := by decide +kernel
theorem dX7_send_43 : decode cX7_send 43 = .ok (.ireturn, 1) := by decide +kernel
theorem dX7_send_44 : decode cX7_send 44 = .ok (.aload_n 0, 1) := by decide +kernel
theorem dX7_send_45 : decode cX7_send 45 = .ok (.getfield 41, 3) := by decide +kernel
theorem dX7_send_48 : decode cX7_send 48 = .ok (.aload_n 0, 1) := by decide +kernel
theorem dX7_send_49 : decode cX7_send 49 = .ok (.getfield 33, 3) := by decide +kernel
theorem dX7_send_52 : decode cX7_send 52 = .ok (.invokevirtual 158, 3) := by decide +kernel
theorem dX7_send_55 : decode cX7_send 55 = .ok (.aload_n 3, 1) := by decide +kernel
theorem dX7_send_56 : decode cX7_send 56 = .ok (.iload_n 2, 1) := by decide +kernel
theorem dX7_send_57 : decode cX7_send 57 = .ok (.invokevirtual 183, 3) := by decide +kernel
theorem dX7_send_60 : decode cX7_send 60 = .ok (.aload_n 0, 1) := by decide +kernel
theorem dX7_send_61 : decode cX7_send 61 = .ok (.getfield 33, 3) := by decide +kernel
theorem dX7_send_64 : decode cX7_send 64 = .ok (.iconst 1, 1) := by decide +kernel
theorem dX7_send_65 : decode cX7_send 65 = .ok (.invokevirtual 186, 3) := by decide +kernel
theorem dX7_send_68 : decode cX7_send 68 = .ok (.ireturn, 1) := by decide +kernel
theorem dX7_let_0 : decode cX7_let 0 = .ok (.aload_n 0, 1) := by decide +kernel
theorem dX7_let_1 : decode cX7_let 1 = .ok (.getfield 33, 3) := by decide +kernel
theorem dX7_let_4 : decode cX7_let 4 = .ok (.iload_n 1, 1) := by decide +kernel
theorem dX7_let_5 : decode cX7_let 5 = .ok (.invokevirtual 171, 3) := by decide +kernel
theorem dX7_let_8 : decode cX7_let 8 = .ok (.ifCond .eq 18, 3) := by decide +kernel
theorem dX7_let_11 : decode cX7_let 11 = .ok (.iload_n 2, 1) := by decide +kernel
theorem dX7_let_12 : decode cX7_let 12 = .ok (.ifCond .eq 14, 3) := by decide +kernel
theorem dX7_let_15 : decode cX7_let 15 = .ok (.iload_n 2, 1) := by decide +kernel
theorem dX7_let_16 : decode cX7_let 16 = .ok (.bipush (-40), 2) := by decide +kernel
theorem dX7_let_18 : decode cX7_let 18 = .ok (.bipush 40, 2) := by decide +kernel
theorem dX7_let_20 : decode cX7_let 20 = .ok (.invokestatic 71, 3) := by decide +kernel
theorem dX7_let_23 : decode cX7_let 23 = .ok (.ifCond .ne 6, 3) := by decide +kernel
theorem dX7_let_26 : decode cX7_let 26 = .ok (.ldc 75, 2) := by decide +kernel
theorem dX7_let_28 : decode cX7_let 28 = .ok (.ireturn, 1) := by decide +kernel
theorem dX7_let_29 : decode cX7_let 29 = .ok (.aload_n 0, 1) := by decide +kernel
theorem dX7_let_30 : decode cX7_let 30 = .ok (.getfield 33, 3) := by decide +kernel
theorem dX7_let_33 : decode cX7_let 33 = .ok (.getfield 174, 3) := by decide +kernel
theorem dX7_let_36 : decode cX7_let 36 = .ok (.iload_n 1, 1) := by decide +kernel
theorem dX7_let_37 : decode cX7_let 37 = .ok (.aaload, 1) := by decide +kernel
theorem dX7_let_38 : decode cX7_let 38 = .ok (.astore_n 3, 1) := by decide +kernel
theorem dX7_let_39 : decode cX7_let 39 = .ok (.aload_n 3, 1) := by decide +kernel
theorem dX7_let_40 : decode cX7_let 40 = .ok (.invokevirtual 189, 3) := by decide +kernel
theorem dX7_let_43 : decode cX7_let 43 = .ok (.ifCond .eq 18, 3) := by decide +kernel
theorem dX7_let_46 : decode cX7_let 46 = .ok (.aload_n 3, 1) := by decide +kernel
theorem dX7_let_47 : decode cX7_let 47 = .ok (.getfield 192, 3) := by decide +kernel
theorem dX7_let_50 : decode cX7_let 50 = .ok (.iload_n 2, 1) := by decide +kernel
theorem dX7_let_51 : decode cX7_let 51 = .ok (.iadd, 1) := by decide +kernel
theorem dX7_let_52 : decode cX7_let 52 = .ok (.iconst 1, 1) := by decide +kernel
theorem dX7_let_53 : decode cX7_let 53 = .ok (.bipush 40, 2) := by decide +kernel
theorem dX7_let_55 : decode cX7_let 55 = .ok (.invokestatic 71, 3) := by decide +kernel
theorem dX7_let_58 : decode cX7_let 58 = .ok (.ifCond .ne 6, 3) := by decide +kernel
theorem dX7_let_61 : decode cX7_let 61 = .ok (.ldc 148, 2) := by decide +kernel
theorem dX7_let_63 : decode cX7_let 63 = .ok (.ireturn, 1) := by decide +kernel
theorem dX7_let_64 : decode cX7_let 64 = .ok (.aload_n 0, 1) := by decide +kernel
theorem dX7_let_65 : decode cX7_let 65 = .ok (.getfield 41, 3) := by decide +kernel
theorem dX7_let_68 : decode cX7_let 68 = .ok (.aload_n 0, 1) := by decide +kernel
theorem dX7_let_69 : decode cX7_let 69 = .ok (.getfield 33, 3) := by decide +kernel
theorem dX7_let_72 : decode cX7_let 72 = .ok (.invokevirtual 158, 3) := by decide +kernel
theorem dX7_let_75 : decode cX7_let 75 = .ok (.aload_n 3, 1) := by decide +kernel
theorem dX7_let_76 : decode cX7_let 76 = .ok (.iload_n 2, 1) := by decide +kernel
theorem dX7_let_77 : decode cX7_let 77 = .ok (.invokevirtual 195, 3) := by decide +kernel
theorem dX7_let_80 : decode cX7_let 80 = .ok (.aload_n 3, 1) := by decide +kernel
theorem dX7_let_81 : decode cX7_let 81 = .ok (.getfield 192, 3) := by decide +kernel
theorem dX7_let_84 : decode cX7_let 84 = .ok (.ireturn, 1) := by decide +kernel
theorem dX7_weigh_0 : decode cX7_weigh 0 = .ok (.aload_n 0, 1) := by decide +kernel
theorem dX7_weigh_1 : decode cX7_weigh 1 = .ok (.getfield 33, 3) := by decide +kernel
theorem dX7_weigh_4 : decode cX7_weigh 4 = .ok (.iload_n 1, 1) := by decide +kernel
theorem dX7_weigh_5 : decode cX7_weigh 5 = .ok (.invokevirtual 171, 3) := by decide +kernel
theorem dX7_weigh_8 : decode cX7_weigh 8 = .ok (.ifCond .eq 13, 3) := by decide +kernel
theorem dX7_weigh_11 : decode cX7_weigh 11 = .ok (.iload_n 2, 1) := by decide +kernel
theorem dX7_weigh_12 : decode cX7_weigh 12 = .ok (.iconst 1, 1) := by decide +kernel
theorem dX7_weigh_13 : decode cX7_weigh 13 = .ok (.bipush 60, 2) := by decide +kernel
theorem dX7_weigh_15 : decode cX7_weigh 15 = .ok (.invokestatic 71, 3) := by decide +kernel
theorem dX7_weigh_18 : decode cX7_weigh 18 = .ok (.ifCond .ne 6, 3) := by decide +kernel
theorem dX7_weigh_21 : decode cX7_weigh 21 = .ok (.ldc 75, 2) := by decide +kernel
theorem dX7_weigh_23 : decode cX7_weigh 23 = .ok (.ireturn, 1) := by decide +kernel
theorem dX7_weigh_24 : decode cX7_weigh 24 = .ok (.aload_n 0, 1) := by decide +kernel
theorem dX7_weigh_25 : decode cX7_weigh 25 = .ok (.getfield 41, 3) := by decide +kernel
theorem dX7_weigh_28 : decode cX7_weigh 28 = .ok (.aload_n 0, 1) := by decide +kernel
theorem dX7_weigh_29 : decode cX7_weigh 29 = .ok (.getfield 33, 3) := by decide +kernel
theorem dX7_weigh_32 : decode cX7_weigh 32 = .ok (.invokevirtual 158, 3) := by decide +kernel
theorem dX7_weigh_35 : decode cX7_weigh 35 = .ok (.aload_n 0, 1) := by decide +kernel
theorem dX7_weigh_36 : decode cX7_weigh 36 = .ok (.getfield 33, 3) := by decide +kernel
theorem dX7_weigh_39 : decode cX7_weigh 39 = .ok (.getfield 174, 3) := by decide +kernel
theorem dX7_weigh_42 : decode cX7_weigh 42 = .ok (.iload_n 1, 1) := by decide +kernel
theorem dX7_weigh_43 : decode cX7_weigh 43 = .ok (.aaload, 1) := by decide +kernel
theorem dX7_weigh_44 : decode cX7_weigh 44 = .ok (.getfield 198, 3) := by decide +kernel
theorem dX7_weigh_47 : decode cX7_weigh 47 = .ok (.istore_n 3, 1) := by decide +kernel
theorem dX7_weigh_48 : decode cX7_weigh 48 = .ok (.aload_n 0, 1) := by decide +kernel
theorem dX7_weigh_49 : decode cX7_weigh 49 = .ok (.getfield 33, 3) := by decide +kernel
theorem dX7_weigh_52 : decode cX7_weigh 52 = .ok (.getfield 174, 3) := by decide +kernel
theorem dX7_weigh_55 : decode cX7_weigh 55 = .ok (.iload_n 1, 1) := by decide +kernel
theorem dX7_weigh_56 : decode cX7_weigh 56 = .ok (.aaload, 1) := by decide +kernel
theorem dX7_weigh_57 : decode cX7_weigh 57 = .ok (.iload_n 2, 1) := by decide +kernel
theorem dX7_weigh_58 : decode cX7_weigh 58 = .ok (.putfield 198, 3) := by decide +kernel
theorem dX7_weigh_61 : decode cX7_weigh 61 = .ok (.iload_n 3, 1) := by decide +kernel
theorem dX7_weigh_62 : decode cX7_weigh 62 = .ok (.ireturn, 1) := by decide +kernel
theorem dX7_blow_0 : decode cX7_blow 0 = .ok (.aload_n 0, 1) := by decide +kernel
theorem dX7_blow_1 : decode cX7_blow 1 = .ok (.getfield 33, 3) := by decide +kernel
theorem dX7_blow_4 : decode cX7_blow 4 = .ok (.iload_n 1, 1) := by decide +kernel
theorem dX7_blow_5 : decode cX7_blow 5 = .ok (.invokevirtual 201, 3) := by decide +kernel
theorem dX7_blow_8 : decode cX7_blow 8 = .ok (.ifCond .eq 13, 3) := by decide +kernel
theorem dX7_blow_11 : decode cX7_blow 11 = .ok (.iload_n 2, 1) := by decide +kernel
theorem dX7_blow_12 : decode cX7_blow 12 = .ok (.iconst 0, 1) := by decide +kernel
theorem dX7_blow_13 : decode cX7_blow 13 = .ok (.bipush 9, 2) := by decide +kernel
theorem dX7_blow_15 : decode cX7_blow 15 = .ok (.invokestatic 71, 3) := by decide +kernel
theorem dX7_blow_18 : decode cX7_blow 18 = .ok (.ifCond .ne 6, 3) := by decide +kernel
theorem dX7_blow_21 : decode cX7_blow 21 = .ok (.ldc 75, 2) := by decide +kernel
theorem dX7_blow_23 : decode cX7_blow 23 = .ok (.ireturn, 1) := by decide +kernel
theorem dX7_blow_24 : decode cX7_blow 24 = .ok (.aload_n 0, 1) := by decide +kernel
theorem dX7_blow_25 : decode cX7_blow 25 = .ok (.getfield 41, 3) := by decide +kernel
theorem dX7_blow_28 : decode cX7_blow 28 = .ok (.aload_n 0, 1) := by decide +kernel
theorem dX7_blow_29 : decode cX7_blow 29 = .ok (.getfield 33, 3) := by decide +kernel
theorem dX7_blow_32 : decode cX7_blow 32 = .ok (.invokevirtual 158, 3) := by decide +kernel
theorem dX7_blow_35 : decode cX7_blow 35 = .ok (.aload_n 0, 1) := by decide +kernel
theorem dX7_blow_36 : decode cX7_blow 36 = .ok (.getfield 33, 3) := by decide +kernel
theorem dX7_blow_39 : decode cX7_blow 39 = .ok (.getfield 204, 3) := by decide +kernel
theorem dX7_blow_42 : decode cX7_blow 42 = .ok (.iload_n 1, 1) := by decide +kernel
theorem dX7_blow_43 : decode cX7_blow 43 = .ok (.iaload, 1) := by decide +kernel
theorem dX7_blow_44 : decode cX7_blow 44 = .ok (.istore_n 3, 1) := by decide +kernel
theorem dX7_blow_45 : decode cX7_blow 45 = .ok (.aload_n 0, 1) := by decide +kernel
theorem dX7_blow_46 : decode cX7_blow 46 = .ok (.getfield 33, 3) := by decide +kernel
theorem dX7_blow_49 : decode cX7_blow 49 = .ok (.getfield 204, 3) := by decide +kernel
theorem dX7_blow_52 : decode cX7_blow 52 = .ok (.iload_n 1, 1) := by decide +kernel
theorem dX7_blow_53 : decode cX7_blow 53 = .ok (.iload_n 2, 1) := by decide +kernel
theorem dX7_blow_54 : decode cX7_blow 54 = .ok (.iastore, 1) := by decide +kernel
theorem dX7_blow_55 : decode cX7_blow 55 = .ok (.iload_n 3, 1) := by decide +kernel
theorem dX7_blow_56 : decode cX7_blow 56 = .ok (.ireturn, 1) := by decide +kernel
theorem dX7_paper_0 : decode cX7_paper 0 = .ok (.aload_n 0, 1) := by decide +kernel
theorem dX7_paper_1 : decode cX7_paper 1 = .ok (.getfield 33, 3) := by decide +kernel
theorem dX7_paper_4 : decode cX7_paper 4 = .ok (.iload_n 1, 1) := by decide +kernel
theorem dX7_paper_5 : decode cX7_paper 5 = .ok (.invokevirtual 171, 3) := by decide +kernel
theorem dX7_paper_8 : decode cX7_paper 8 = .ok (.ifCond .ne 6, 3) := by decide +kernel
theorem dX7_paper_11 : decode cX7_paper 11 = .ok (.ldc 75, 2) := by decide +kernel
theorem dX7_paper_13 : decode cX7_paper 13 = .ok (.ireturn, 1) := by decide +kernel
theorem dX7_paper_14 : decode cX7_paper 14 = .ok (.aload_n 0, 1) := by decide +kernel
theorem dX7_paper_15 : decode cX7_paper 15 = .ok (.getfield 33, 3) := by decide +kernel
theorem dX7_paper_18 : decode cX7_paper 18 = .ok (.getfield 174, 3) := by decide +kernel
theorem dX7_paper_21 : decode cX7_paper 21 = .ok (.iload_n 1, 1) := by decide +kernel
theorem dX7_paper_22 : decode cX7_paper 22 = .ok (.aaload, 1) := by decide +kernel
theorem dX7_paper_23 : decode cX7_paper 23 = .ok (.astore_n 3, 1) := by decide +kernel
theorem dX7_paper_24 : decode cX7_paper 24 = .ok (.iload_n 2, 1) := by decide +kernel
theorem dX7_paper_25 : decode cX7_paper 25 = .ok (.tableswitch 90 0 6 #[43, 48, 53, 58, 63, 68, 73], 43) := by decide +kernel
theorem dX7_paper_68 : decode cX7_paper 68 = .ok (.aload_n 3, 1) := by decide +kernel
theorem dX7_paper_69 : decode cX7_paper 69 = .ok (.getfield 207, 3) := by decide +kernel
theorem dX7_paper_72 : decode cX7_paper 72 = .ok (.ireturn, 1) := by decide +kernel
theorem dX7_paper_73 : decode cX7_paper 73 = .ok (.aload_n 3, 1) := by decide +kernel
theorem dX7_paper_74 : decode cX7_paper 74 = .ok (.getfield 198, 3) := by decide +kernel
theorem dX7_paper_77 : decode cX7_paper 77 = .ok (.ireturn, 1) := by decide +kernel
theorem dX7_paper_78 : decode cX7_paper 78 = .ok (.aload_n 3, 1) := by decide +kernel
theorem dX7_paper_79 : decode cX7_paper 79 = .ok (.getfield 178, 3) := by decide +kernel
theorem dX7_paper_82 : decode cX7_paper 82 = .ok (.ireturn, 1) := by decide +kernel
theorem dX7_paper_83 : decode cX7_paper 83 = .ok (.aload_n 3, 1) := by decide +kernel
theorem dX7_paper_84 : decode cX7_paper 84 = .ok (.getfield 210, 3) := by decide +kernel
theorem dX7_paper_87 : decode cX7_paper 87 = .ok (.ireturn, 1) := by decide +kernel
theorem dX7_paper_88 : decode cX7_paper 88 = .ok (.aload_n 3, 1) := by decide +kernel
theorem dX7_paper_89 : decode cX7_paper 89 = .ok (.getfield 192, 3) := by decide +kernel
theorem dX7_paper_92 : decode cX7_paper 92 = .ok (.ireturn, 1) := by decide +kernel
theorem dX7_paper_93 : decode cX7_paper 93 = .ok (.aload_n 3, 1) := by decide +kernel
theorem dX7_paper_94 : decode cX7_paper 94 = .ok (.getfield 213, 3) := by decide +kernel
theorem dX7_paper_97 : decode cX7_paper 97 = .ok (.ireturn, 1) := by decide +kernel
theorem dX7_paper_98 : decode cX7_paper 98 = .ok (.aload_n 0, 1) := by decide +kernel
theorem dX7_paper_99 : decode cX7_paper 99 = .ok (.getfield 33, 3) := by decide +kernel
theorem dX7_paper_102 : decode cX7_paper 102 = .ok (.iload_n 1, 1) := by decide +kernel
theorem dX7_paper_103 : decode cX7_paper 103 = .ok (.invokevirtual 216, 3) := by decide +kernel
theorem dX7_paper_106 : decode cX7_paper 106 = .ok (.ifCond .eq 7, 3) := by decide +kernel
theorem dX7_paper_109 : decode cX7_paper 109 = .ok (.iconst 1, 1) := by decide +kernel
theorem dX7_paper_110 : decode cX7_paper 110 = .ok (.goto 4, 3) := by decide +kernel
theorem dX7_paper_113 : decode cX7_paper 113 = .ok (.iconst 0, 1) := by decide +kernel
theorem dX7_paper_114 : decode cX7_paper 114 = .ok (.ireturn, 1) := by decide +kernel
theorem dX7_paper_115 : decode cX7_paper 115 = .ok (.ldc 75, 2) := by decide +kernel
theorem dX7_paper_117 : decode cX7_paper 117 = .ok (.ireturn, 1) := by decide +kernel
theorem dX7_force_0 : decode cX7_force 0 = .ok (.aload_n 0, 1) := by decide +kernel
theorem dX7_force_1 : decode cX7_force 1 = .ok (.getfield 33, 3) := by decide +kernel
theorem dX7_force_4 : decode cX7_force 4 = .ok (.invokevirtual 152, 3) := by decide +kernel
theorem dX7_force_7 : decode cX7_force 7 = .ok (.ifCond .ne 6, 3) := by decide +kernel
theorem dX7_force_10 : decode cX7_force 10 = .ok (.ldc 148, 2) := by decide +kernel
theorem dX7_force_12 : decode cX7_force 12 = .ok (.ireturn, 1) := by decide +kernel
theorem dX7_force_13 : decode cX7_force 13 = .ok (.iload_n 1, 1) := by decide +kernel
theorem dX7_force_14 : decode cX7_force 14 = .ok (.iconst 0, 1) := by decide +kernel
theorem dX7_force_15 : decode cX7_force 15 = .ok (.bipush 60, 2) := by decide +kernel
theorem dX7_force_17 : decode cX7_force 17 = .ok (.invokestatic 71, 3) := by decide +kernel
theorem dX7_force_20 : decode cX7_force 20 = .ok (.ifCond .ne 6, 3) := by decide +kernel
theorem dX7_force_23 : decode cX7_force 23 = .ok (.ldc 75, 2) := by decide +kernel
theorem dX7_force_25 : decode cX7_force 25 = .ok (.ireturn, 1) := by decide +kernel
theorem dX7_force_26 : decode cX7_force 26 = .ok (.aload_n 0, 1) := by decide +kernel
theorem dX7_force_27 : decode cX7_force 27 = .ok (.getfield 33, 3) := by decide +kernel
theorem dX7_force_30 : decode cX7_force 30 = .ok (.iload_n 1, 1) := by decide +kernel
theorem dX7_force_31 : decode cX7_force 31 = .ok (.invokevirtual 161, 3) := by decide +kernel
theorem dX7_force_34 : decode cX7_force 34 = .ok (.ireturn, 1) := by decide +kernel
theorem dX7_stand_0 : decode cX7_stand 0 = .ok (.aload_n 0, 1) := by decide +kernel
theorem dX7_stand_1 : decode cX7_stand 1 = .ok (.getfield 33, 3) := by decide +kernel
theorem dX7_stand_4 : decode cX7_stand 4 = .ok (.invokevirtual 152, 3) := by decide +kernel
theorem dX7_stand_7 : decode cX7_stand 7 = .ok (.ifCond .ne 6, 3) := by decide +kernel
theorem dX7_stand_10 : decode cX7_stand 10 = .ok (.ldc 148, 2) := by decide +kernel
theorem dX7_stand_12 : decode cX7_stand 12 = .ok (.ireturn, 1) := by decide +kernel
theorem dX7_stand_13 : decode cX7_stand 13 = .ok (.iload_n 1, 1) := by decide +kernel
theorem dX7_stand_14 : decode cX7_stand 14 = .ok (.tableswitch 76 0 4 #[34, 43, 51, 60, 68], 34) := by decide +kernel
theorem dX7_stand_48 : decode cX7_stand 48 = .ok (.aload_n 0, 1) := by decide +kernel
theorem dX7_stand_49 : decode cX7_stand 49 = .ok (.getfield 33, 3) := by decide +kernel
theorem dX7_stand_52 : decode cX7_stand 52 = .ok (.iconst 1, 1) := by decide +kernel
theorem dX7_stand_53 : decode cX7_stand 53 = .ok (.invokevirtual 186, 3) := by decide +kernel
theorem dX7_stand_56 : decode cX7_stand 56 = .ok (.ireturn, 1) := by decide +kernel
theorem dX7_stand_57 : decode cX7_stand 57 = .ok (.aload_n 0, 1) := by decide +kernel
theorem dX7_stand_58 : decode cX7_stand 58 = .ok (.getfield 33, 3) := by decide +kernel
theorem dX7_stand_61 : decode cX7_stand 61 = .ok (.invokevirtual 167, 3) := by decide +kernel
theorem dX7_stand_64 : decode cX7_stand 64 = .ok (.ireturn, 1) := by decide +kernel
theorem dX7_stand_65 : decode cX7_stand 65 = .ok (.aload_n 0, 1) := by decide +kernel
theorem dX7_stand_66 : decode cX7_stand 66 = .ok (.getfield 33, 3) := by decide +kernel
theorem dX7_stand_69 : decode cX7_stand 69 = .ok (.iconst 2, 1) := by decide +kernel
theorem dX7_stand_70 : decode cX7_stand 70 = .ok (.invokevirtual 186, 3) := by decide +kernel
theorem dX7_stand_73 : decode cX7_stand 73 = .ok (.ireturn, 1) := by decide +kernel
theorem dX7_stand_74 : decode cX7_stand 74 = .ok (.aload_n 0, 1) := by decide +kernel
theorem dX7_stand_75 : decode cX7_stand 75 = .ok (.getfield 33, 3) := by decide +kernel
theorem dX7_stand_78 : decode cX7_stand 78 = .ok (.getfield 219, 3) := by decide +kernel
theorem dX7_stand_81 : decode cX7_stand 81 = .ok (.ireturn, 1) := by decide +kernel
theorem dX7_stand_82 : decode cX7_stand 82 = .ok (.aload_n 0, 1) := by decide +kernel
theorem dX7_stand_83 : decode cX7_stand 83 = .ok (.getfield 33, 3) := by decide +kernel
theorem dX7_stand_86 : decode cX7_stand 86 = .ok (.getfield 222, 3) := by decide +kernel
theorem dX7_stand_89 : decode cX7_stand 89 = .ok (.ireturn, 1) := by decide +kernel
theorem dX7_stand_90 : decode cX7_stand 90 = .ok (.ldc 75, 2) := by decide +kernel
theorem dX7_stand_92 : decode cX7_stand 92 = .ok (.ireturn, 1) := by decide +kernel
theorem dX7_ahead_0 : decode cX7_ahead 0 = .ok (.aload_n 0, 1) := by decide +kernel
theorem dX7_ahead_1 : decode cX7_ahead 1 = .ok (.getfield 33, 3) := by decide +kernel
theorem dX7_ahead_4 : decode cX7_ahead 4 = .ok (.iload_n 1, 1) := by decide +kernel
theorem dX7_ahead_5 : decode cX7_ahead 5 = .ok (.invokevirtual 171, 3) := by decide +kernel
theorem dX7_ahead_8 : decode cX7_ahead 8 = .ok (.ifCond .eq 22, 3) := by decide +kernel
theorem dX7_ahead_11 : decode cX7_ahead 11 = .ok (.iload_n 2, 1) := by decide +kernel
theorem dX7_ahead_12 : decode cX7_ahead 12 = .ok (.iconst 0, 1) := by decide +kernel
theorem dX7_ahead_13 : decode cX7_ahead 13 = .ok (.bipush 60, 2) := by decide +kernel
theorem dX7_ahead_15 : decode cX7_ahead 15 = .ok (.invokestatic 71, 3) := by decide +kernel
theorem dX7_ahead_18 : decode cX7_ahead 18 = .ok (.ifCond .eq 12, 3) := by decide +kernel
theorem dX7_ahead_21 : decode cX7_ahead 21 = .ok (.iload_n 3, 1) := by decide +kernel
theorem dX7_ahead_22 : decode cX7_ahead 22 = .ok (.iconst 0, 1) := by decide +kernel
theorem dX7_ahead_23 : decode cX7_ahead 23 = .ok (.iconst 2, 1) := by decide +kernel
theorem dX7_ahead_24 : decode cX7_ahead 24 = .ok (.invokestatic 71, 3) := by decide +kernel
theorem dX7_ahead_27 : decode cX7_ahead 27 = .ok (.ifCond .ne 6, 3) := by decide +kernel
theorem dX7_ahead_30 : decode cX7_ahead 30 = .ok (.ldc 75, 2) := by decide +kernel
theorem dX7_ahead_32 : decode cX7_ahead 32 = .ok (.ireturn, 1) := by decide +kernel
theorem dX7_ahead_33 : decode cX7_ahead 33 = .ok (.aload_n 0, 1) := by decide +kernel
theorem dX7_ahead_34 : decode cX7_ahead 34 = .ok (.getfield 25, 3) := by decide +kernel
theorem dX7_ahead_37 : decode cX7_ahead 37 = .ok (.iload_n 2, 1) := by decide +kernel
theorem dX7_ahead_38 : decode cX7_ahead 38 = .ok (.invokevirtual 225, 3) := by decide +kernel
theorem dX7_ahead_41 : decode cX7_ahead 41 = .ok (.aload_n 0, 1) := by decide +kernel
theorem dX7_ahead_42 : decode cX7_ahead 42 = .ok (.getfield 37, 3) := by decide +kernel
theorem dX7_ahead_45 : decode cX7_ahead 45 = .ok (.getfield 174, 3) := by decide +kernel
theorem dX7_ahead_48 : decode cX7_ahead 48 = .ok (.iload_n 1, 1) := by decide +kernel
theorem dX7_ahead_49 : decode cX7_ahead 49 = .ok (.aaload, 1) := by decide +kernel
theorem dX7_ahead_50 : decode cX7_ahead 50 = .ok (.astore 4, 2) := by decide +kernel
theorem dX7_ahead_52 : decode cX7_ahead 52 = .ok (.iload_n 3, 1) := by decide +kernel
theorem dX7_ahead_53 : decode cX7_ahead 53 = .ok (.ifCond .ne 9, 3) := by decide +kernel
theorem dX7_ahead_56 : decode cX7_ahead 56 = .ok (.aload 4, 2) := by decide +kernel
theorem dX7_ahead_58 : decode cX7_ahead 58 = .ok (.getfield 210, 3) := by decide +kernel
theorem dX7_ahead_61 : decode cX7_ahead 61 = .ok (.ireturn, 1) := by decide +kernel
theorem dX7_ahead_62 : decode cX7_ahead 62 = .ok (.iload_n 3, 1) := by decide +kernel
theorem dX7_ahead_63 : decode cX7_ahead 63 = .ok (.iconst 1, 1) := by decide +kernel
theorem dX7_ahead_64 : decode cX7_ahead 64 = .ok (.if_icmp .ne 11, 3) := by decide +kernel
theorem dX7_ahead_67 : decode cX7_ahead 67 = .ok (.aload 4, 2) := by decide +kernel
theorem dX7_ahead_69 : decode cX7_ahead 69 = .ok (.getfield 192, 3) := by decide +kernel
theorem dX7_ahead_72 : decode cX7_ahead 72 = .ok (.goto 8, 3) := by decide +kernel
theorem dX7_ahead_75 : decode cX7_ahead 75 = .ok (.aload 4, 2) := by decide +kernel
theorem dX7_ahead_77 : decode cX7_ahead 77 = .ok (.getfield 213, 3) := by decide +kernel
theorem dX7_ahead_80 : decode cX7_ahead 80 = .ok (.ireturn, 1) := by decide +kernel
theorem dX7_when_0 : decode cX7_when 0 = .ok (.aload_n 0, 1) := by decide +kernel
theorem dX7_when_1 : decode cX7_when 1 = .ok (.getfield 33, 3) := by decide +kernel
theorem dX7_when_4 : decode cX7_when 4 = .ok (.iload_n 1, 1) := by decide +kernel
theorem dX7_when_5 : decode cX7_when 5 = .ok (.invokevirtual 171, 3) := by decide +kernel
theorem dX7_when_8 : decode cX7_when 8 = .ok (.ifCond .eq 12, 3) := by decide +kernel
theorem dX7_when_11 : decode cX7_when 11 = .ok (.iload_n 2, 1) := by decide +kernel
theorem dX7_when_12 : decode cX7_when 12 = .ok (.iconst 1, 1) := by decide +kernel
theorem dX7_when_13 : decode cX7_when 13 = .ok (.iconst 2, 1) := by decide +kernel
theorem dX7_when_14 : decode cX7_when 14 = .ok (.invokestatic 71, 3) := by decide +kernel
theorem dX7_when_17 : decode cX7_when 17 = .ok (.ifCond .ne 6, 3) := by decide +kernel
theorem dX7_when_20 : decode cX7_when 20 = .ok (.ldc 75, 2) := by decide +kernel
theorem dX7_when_22 : decode cX7_when 22 = .ok (.ireturn, 1) := by decide +kernel
theorem dX7_when_23 : decode cX7_when 23 = .ok (.aload_n 0, 1) := by decide +kernel
theorem dX7_when_24 : decode cX7_when 24 = .ok (.getfield 25, 3) := by decide +kernel
theorem dX7_when_27 : decode cX7_when 27 = .ok (.iload_n 1, 1) := by decide +kernel
theorem dX7_when_28 : decode cX7_when 28 = .ok (.iload_n 2, 1) := by decide +kernel
theorem dX7_when_29 : decode cX7_when 29 = .ok (.iconst 2, 1) := by decide +kernel
theorem dX7_when_30 : decode cX7_when 30 = .ok (.if_icmp .ne 7, 3) := by decide +kernel
theorem dX7_when_33 : decode cX7_when 33 = .ok (.iconst 1, 1) := by decide +kernel
theorem dX7_when_34 : decode cX7_when 34 = .ok (.goto 4, 3) := by decide +kernel
theorem dX7_when_37 : decode cX7_when 37 = .ok (.iconst 0, 1) := by decide +kernel
theorem dX7_when_38 : decode cX7_when 38 = .ok (.invokevirtual 228, 3) := by decide +kernel
theorem dX7_when_41 : decode cX7_when 41 = .ok (.ireturn, 1) := by decide +kernel
theorem dX7_policy_0 : decode cX7_policy 0 = .ok (.aload_n 0, 1) := by decide +kernel
theorem dX7_policy_1 : decode cX7_policy 1 = .ok (.getfield 33, 3) := by decide +kernel
theorem dX7_policy_4 : decode cX7_policy 4 = .ok (.invokevirtual 152, 3) := by decide +kernel
theorem dX7_policy_7 : decode cX7_policy 7 = .ok (.ifCond .ne 6, 3) := by decide +kernel
theorem dX7_policy_10 : decode cX7_policy 10 = .ok (.ldc 148, 2) := by decide +kernel
theorem dX7_policy_12 : decode cX7_policy 12 = .ok (.ireturn, 1) := by decide +kernel
theorem dX7_policy_13 : decode cX7_policy 13 = .ok (.iload_n 1, 1) := by decide +kernel
theorem dX7_policy_14 : decode cX7_policy 14 = .ok (.iconst 0, 1) := by decide +kernel
theorem dX7_policy_15 : decode cX7_policy 15 = .ok (.bipush 60, 2) := by decide +kernel
theorem dX7_policy_17 : decode cX7_policy 17 = .ok (.invokestatic 71, 3) := by decide +kernel
theorem dX7_policy_20 : decode cX7_policy 20 = .ok (.ifCond .ne 6, 3) := by decide +kernel
theorem dX7_policy_23 : decode cX7_policy 23 = .ok (.ldc 75, 2) := by decide +kernel
theorem dX7_policy_25 : decode cX7_policy 25 = .ok (.ireturn, 1) := by decide +kernel
theorem dX7_policy_26 : decode cX7_policy 26 = .ok (.aload_n 0, 1) := by decide +kernel
theorem dX7_policy_27 : decode cX7_policy 27 = .ok (.getfield 25, 3) := by decide +kernel
theorem dX7_policy_30 : decode cX7_policy 30 = .ok (.iload_n 1, 1) := by decide +kernel
theorem dX7_policy_31 : decode cX7_policy 31 = .ok (.invokevirtual 225, 3) := by decide +kernel
theorem dX7_policy_34 : decode cX7_policy 34 = .ok (.aload_n 0, 1) := by decide +kernel
theorem dX7_policy_35 : decode cX7_policy 35 = .ok (.getfield 37, 3) := by decide +kernel
theorem dX7_policy_38 : decode cX7_policy 38 = .ok (.invokevirtual 167, 3) := by decide +kernel
theorem dX7_policy_41 : decode cX7_policy 41 = .ok (.ireturn, 1) := by decide +kernel
theorem dX7_pull_0 : decode cX7_pull 0 = .ok (.aload_n 0, 1) := by decide +kernel
theorem dX7_pull_1 : decode cX7_pull 1 = .ok (.getfield 33, 3) := by decide +kernel
theorem dX7_pull_4 : decode cX7_pull 4 = .ok (.iload_n 1, 1) := by decide +kernel
theorem dX7_pull_5 : decode cX7_pull 5 = .ok (.invokevirtual 171, 3) := by decide +kernel
theorem dX7_pull_8 : decode cX7_pull 8 = .ok (.ifCond .ne 6, 3) := by decide +kernel
theorem dX7_pull_11 : decode cX7_pull 11 = .ok (.ldc 75, 2) := by decide +kernel
theorem dX7_pull_13 : decode cX7_pull 13 = .ok (.ireturn, 1) := by decide +kernel
theorem dX7_pull_14 : decode cX7_pull 14 = .ok (.aload_n 0, 1) := by decide +kernel
theorem dX7_pull_15 : decode cX7_pull 15 = .ok (.getfield 33, 3) := by decide +kernel
theorem dX7_pull_18 : decode cX7_pull 18 = .ok (.getfield 174, 3) := by decide +kernel
theorem dX7_pull_21 : decode cX7_pull 21 = .ok (.iload_n 1, 1) := by decide +kernel
theorem dX7_pull_22 : decode cX7_pull 22 = .ok (.aaload, 1) := by decide +kernel
theorem dX7_pull_23 : decode cX7_pull 23 = .ok (.invokevirtual 189, 3) := by decide +kernel
theorem dX7_pull_26 : decode cX7_pull 26 = .ok (.ifCond .ne 6, 3) := by decide +kernel
theorem dX7_pull_29 : decode cX7_pull 29 = .ok (.ldc 148, 2) := by decide +kernel
theorem dX7_pull_31 : decode cX7_pull 31 = .ok (.ireturn, 1) := by decide +kernel
theorem dX7_pull_32 : decode cX7_pull 32 = .ok (.aload_n 0, 1) := by decide +kernel
theorem dX7_pull_33 : decode cX7_pull 33 = .ok (.getfield 33, 3) := by decide +kernel
theorem dX7_pull_36 : decode cX7_pull 36 = .ok (.iload_n 1, 1) := by decide +kernel
theorem dX7_pull_37 : decode cX7_pull 37 = .ok (.aload_n 0, 1) := by decide +kernel
theorem dX7_pull_38 : decode cX7_pull 38 = .ok (.getfield 33, 3) := by decide +kernel
theorem dX7_pull_41 : decode cX7_pull 41 = .ok (.iconst 0, 1) := by decide +kernel
theorem dX7_pull_42 : decode cX7_pull 42 = .ok (.invokevirtual 161, 3) := by decide +kernel
theorem dX7_pull_45 : decode cX7_pull 45 = .ok (.invokevirtual 232, 3) := by decide +kernel
theorem dX7_pull_48 : decode cX7_pull 48 = .ok (.ireturn, 1) := by decide +kernel
theorem dX7_sends_0 : decode cX7_sends 0 = .ok (.aload_n 0, 1) := by decide +kernel
theorem dX7_sends_1 : decode cX7_sends 1 = .ok (.getfield 33, 3) := by decide +kernel
theorem dX7_sends_4 : decode cX7_sends 4 = .ok (.invokevirtual 152, 3) := by decide +kernel
theorem dX7_sends_7 : decode cX7_sends 7 = .ok (.ifCond .ne 6, 3) := by decide +kernel
theorem dX7_sends_10 : decode cX7_sends 10 = .ok (.ldc 148, 2) := by decide +kernel
theorem dX7_sends_12 : decode cX7_sends 12 = .ok (.ireturn, 1) := by decide +kernel
theorem dX7_sends_13 : decode cX7_sends 13 = .ok (.iload_n 1, 1) := by decide +kernel
theorem dX7_sends_14 : decode cX7_sends 14 = .ok (.iconst 1, 1) := by decide +kernel
theorem dX7_sends_15 : decode cX7_sends 15 = .ok (.bipush 30, 2) := by decide +kernel
theorem dX7_sends_17 : decode cX7_sends 17 = .ok (.invokestatic 71, 3) := by decide +kernel
theorem dX7_sends_20 : decode cX7_sends 20 = .ok (.ifCond .eq 22, 3) := by decide +kernel
theorem dX7_sends_23 : decode cX7_sends 23 = .ok (.iload_n 2, 1) := by decide +kernel
theorem dX7_sends_24 : decode cX7_sends 24 = .ok (.iconst 1, 1) := by decide +kernel
theorem dX7_sends_25 : decode cX7_sends 25 = .ok (.bipush 40, 2) := by decide +kernel
theorem dX7_sends_27 : decode cX7_sends 27 = .ok (.invokestatic 71, 3) := by decide +kernel
theorem dX7_sends_30 : decode cX7_sends 30 = .ok (.ifCond .eq 12, 3) := by decide +kernel
theorem dX7_sends_33 : decode cX7_sends 33 = .ok (.iload_n 3, 1) := by decide +kernel
theorem dX7_sends_34 : decode cX7_sends 34 = .ok (.iconst 0, 1) := by decide +kernel
theorem dX7_sends_35 : decode cX7_sends 35 = .ok (.iconst 1, 1) := by decide +kernel
theorem dX7_sends_36 : decode cX7_sends 36 = .ok (.invokestatic 71, 3) := by decide +kernel
theorem dX7_sends_39 : decode cX7_sends 39 = .ok (.ifCond .ne 6, 3) := by decide +kernel
theorem dX7_sends_42 : decode cX7_sends 42 = .ok (.ldc 75, 2) := by decide +kernel
theorem dX7_sends_44 : decode cX7_sends 44 = .ok (.ireturn, 1) := by decide +kernel
theorem dX7_sends_45 : decode cX7_sends 45 = .ok (.aload_n 0, 1) := by decide +kernel
theorem dX7_sends_46 : decode cX7_sends 46 = .ok (.getfield 25, 3) := by decide +kernel
theorem dX7_sends_49 : decode cX7_sends 49 = .ok (.iload_n 1, 1) := by decide +kernel
theorem dX7_sends_50 : decode cX7_sends 50 = .ok (.iload_n 2, 1) := by decide +kernel
theorem dX7_sends_51 : decode cX7_sends 51 = .ok (.iload_n 3, 1) := by decide +kernel
theorem dX7_sends_52 : decode cX7_sends 52 = .ok (.iconst 1, 1) := by decide +kernel
theorem dX7_sends_53 : decode cX7_sends 53 = .ok (.if_icmp .ne 7, 3) := by decide +kernel
theorem dX7_sends_56 : decode cX7_sends 56 = .ok (.iconst 1, 1) := by decide +kernel
theorem dX7_sends_57 : decode cX7_sends 57 = .ok (.goto 4, 3) := by decide +kernel
theorem dX7_sends_60 : decode cX7_sends 60 = .ok (.iconst 0, 1) := by decide +kernel
theorem dX7_sends_61 : decode cX7_sends 61 = .ok (.invokevirtual 235, 3) := by decide +kernel
theorem dX7_sends_64 : decode cX7_sends 64 = .ok (.ireturn, 1) := by decide +kernel
theorem dX7_lets_0 : decode cX7_lets 0 = .ok (.aload_n 0, 1) := by decide +kernel
theorem dX7_lets_1 : decode cX7_lets 1 = .ok (.getfield 33, 3) := by decide +kernel
theorem dX7_lets_4 : decode cX7_lets 4 = .ok (.iload_n 1, 1) := by decide +kernel
theorem dX7_lets_5 : decode cX7_lets 5 = .ok (.invokevirtual 171, 3) := by decide +kernel
theorem dX7_lets_8 : decode cX7_lets 8 = .ok (.ifCond .eq 17, 3) := by decide +kernel
theorem dX7_lets_11 : decode cX7_lets 11 = .ok (.iload_n 2, 1) := by decide +kernel
theorem dX7_lets_12 : decode cX7_lets 12 = .ok (.iconst 1, 1) := by decide +kernel
theorem dX7_lets_13 : decode cX7_lets 13 = .ok (.iconst 4, 1) := by decide +kernel
theorem dX7_lets_14 : decode cX7_lets 14 = .ok (.invokestatic 71, 3) := by decide +kernel
theorem dX7_lets_17 : decode cX7_lets 17 = .ok (.ifCond .eq 8, 3) := by decide +kernel
theorem dX7_lets_20 : decode cX7_lets 20 = .ok (.iload_n 3, 1) := by decide +kernel
theorem dX7_lets_21 : decode cX7_lets 21 = .ok (.iconst (-1), 1) := by decide +kernel
theorem dX7_lets_22 : decode cX7_lets 22 = .ok (.if_icmp .ge 6, 3) := by decide +kernel
theorem dX7_lets_25 : decode cX7_lets 25 = .ok (.ldc 75, 2) := by decide +kernel
theorem dX7_lets_27 : decode cX7_lets 27 = .ok (.ireturn, 1) := by decide +kernel
theorem dX7_lets_28 : decode cX7_lets 28 = .ok (.aload_n 0, 1) := by decide +kernel
theorem dX7_lets_29 : decode cX7_lets 29 = .ok (.getfield 33, 3) := by decide +kernel
theorem dX7_lets_32 : decode cX7_lets 32 = .ok (.getfield 174, 3) := by decide +kernel
theorem dX7_lets_35 : decode cX7_lets 35 = .ok (.iload_n 1, 1) := by decide +kernel
theorem dX7_lets_36 : decode cX7_lets 36 = .ok (.aaload, 1) := by decide +kernel
theorem dX7_lets_37 : decode cX7_lets 37 = .ok (.invokevirtual 189, 3) := by decide +kernel
theorem dX7_lets_40 : decode cX7_lets 40 = .ok (.ifCond .ne 6, 3) := by decide +kernel
theorem dX7_lets_43 : decode cX7_lets 43 = .ok (.ldc 148, 2) := by decide +kernel
theorem dX7_lets_45 : decode cX7_lets 45 = .ok (.ireturn, 1) := by decide +kernel
theorem dX7_lets_46 : decode cX7_lets 46 = .ok (.aload_n 0, 1) := by decide +kernel
theorem dX7_lets_47 : decode cX7_lets 47 = .ok (.getfield 25, 3) := by decide +kernel
theorem dX7_lets_50 : decode cX7_lets 50 = .ok (.iload_n 1, 1) := by decide +kernel
theorem dX7_lets_51 : decode cX7_lets 51 = .ok (.iload_n 2, 1) := by decide +kernel
theorem dX7_lets_52 : decode cX7_lets 52 = .ok (.iload_n 3, 1) := by decide +kernel
theorem dX7_lets_53 : decode cX7_lets 53 = .ok (.invokevirtual 239, 3) := by decide +kernel
theorem dX7_lets_56 : decode cX7_lets 56 = .ok (.ireturn, 1) := by decide +kernel
theorem dX7_light_0 : decode cX7_light 0 = .ok (.aload_n 0, 1) := by decide +kernel
theorem dX7_light_1 : decode cX7_light 1 = .ok (.getfield 33, 3) := by decide +kernel
theorem dX7_light_4 : decode cX7_light 4 = .ok (.iload_n 1, 1) := by decide +kernel
theorem dX7_light_5 : decode cX7_light 5 = .ok (.invokevirtual 171, 3) := by decide +kernel
theorem dX7_light_8 : decode cX7_light 8 = .ok (.ifCond .eq 13, 3) := by decide +kernel
theorem dX7_light_11 : decode cX7_light 11 = .ok (.iload_n 2, 1) := by decide +kernel
theorem dX7_light_12 : decode cX7_light 12 = .ok (.iconst 1, 1) := by decide +kernel
theorem dX7_light_13 : decode cX7_light 13 = .ok (.bipush 30, 2) := by decide +kernel
theorem dX7_light_15 : decode cX7_light 15 = .ok (.invokestatic 71, 3) := by decide +kernel
theorem dX7_light_18 : decode cX7_light 18 = .ok (.ifCond .ne 6, 3) := by decide +kernel
theorem dX7_light_21 : decode cX7_light 21 = .ok (.ldc 75, 2) := by decide +kernel
theorem dX7_light_23 : decode cX7_light 23 = .ok (.ireturn, 1) := by decide +kernel
theorem dX7_light_24 : decode cX7_light 24 = .ok (.aload_n 0, 1) := by decide +kernel
theorem dX7_light_25 : decode cX7_light 25 = .ok (.getfield 25, 3) := by decide +kernel
theorem dX7_light_28 : decode cX7_light 28 = .ok (.iload_n 1, 1) := by decide +kernel
theorem dX7_light_29 : decode cX7_light 29 = .ok (.iload_n 2, 1) := by decide +kernel
theorem dX7_light_30 : decode cX7_light 30 = .ok (.invokevirtual 243, 3) := by decide +kernel
theorem dX7_light_33 : decode cX7_light 33 = .ok (.ireturn, 1) := by decide +kernel
theorem dX7_gust_0 : decode cX7_gust 0 = .ok (.aload_n 0, 1) := by decide +kernel
theorem dX7_gust_1 : decode cX7_gust 1 = .ok (.getfield 33, 3) := by decide +kernel
theorem dX7_gust_4 : decode cX7_gust 4 = .ok (.iload_n 1, 1) := by decide +kernel
theorem dX7_gust_5 : decode cX7_gust 5 = .ok (.invokevirtual 171, 3) := by decide +kernel
theorem dX7_gust_8 : decode cX7_gust 8 = .ok (.ifCond .ne 6, 3) := by decide +kernel
theorem dX7_gust_11 : decode cX7_gust 11 = .ok (.ldc 75, 2) := by decide +kernel
theorem dX7_gust_13 : decode cX7_gust 13 = .ok (.ireturn, 1) := by decide +kernel
theorem dX7_gust_14 : decode cX7_gust 14 = .ok (.aload_n 0, 1) := by decide +kernel
theorem dX7_gust_15 : decode cX7_gust 15 = .ok (.getfield 33, 3) := by decide +kernel
theorem dX7_gust_18 : decode cX7_gust 18 = .ok (.getfield 174, 3) := by decide +kernel
theorem dX7_gust_21 : decode cX7_gust 21 = .ok (.iload_n 1, 1) := by decide +kernel
theorem dX7_gust_22 : decode cX7_gust 22 = .ok (.aaload, 1) := by decide +kernel
theorem dX7_gust_23 : decode cX7_gust 23 = .ok (.invokevirtual 189, 3) := by decide +kernel
theorem dX7_gust_26 : decode cX7_gust 26 = .ok (.ifCond .ne 6, 3) := by decide +kernel
theorem dX7_gust_29 : decode cX7_gust 29 = .ok (.ldc 148, 2) := by decide +kernel
theorem dX7_gust_31 : decode cX7_gust 31 = .ok (.ireturn, 1) := by decide +kernel
theorem dX7_gust_32 : decode cX7_gust 32 = .ok (.aload_n 0, 1) := by decide +kernel
theorem dX7_gust_33 : decode cX7_gust 33 = .ok (.getfield 25, 3) := by decide +kernel
theorem dX7_gust_36 : decode cX7_gust 36 = .ok (.iload_n 1, 1) := by decide +kernel
theorem dX7_gust_37 : decode cX7_gust 37 = .ok (.invokevirtual 246, 3) := by decide +kernel
theorem dX7_gust_40 : decode cX7_gust 40 = .ok (.ireturn, 1) := by decide +kernel
theorem dX7_quarrels_0 : decode cX7_quarrels 0 = .ok (.aload_n 0, 1) := by decide +kernel
theorem dX7_quarrels_1 : decode cX7_quarrels 1 = .ok (.getfield 33, 3) := by decide +kernel
theorem dX7_quarrels_4 : decode cX7_quarrels 4 = .ok (.invokevirtual 152, 3) := by decide +kernel
theorem dX7_quarrels_7 : decode cX7_quarrels 7 = .ok (.ifCond .ne 6, 3) := by decide +kernel
theorem dX7_quarrels_10 : decode cX7_quarrels 10 = .ok (.ldc 148, 2) := by decide +kernel
theorem dX7_quarrels_12 : decode cX7_quarrels 12 = .ok (.ireturn, 1) := by decide +kernel
theorem dX7_quarrels_13 : decode cX7_quarrels 13 = .ok (.iload_n 1, 1) := by decide +kernel
theorem dX7_quarrels_14 : decode cX7_quarrels 14 = .ok (.lookupswitch 42 #[(0, 26), (1, 34)], 26) := by decide +kernel
theorem dX7_quarrels_40 : decode cX7_quarrels 40 = .ok (.aload_n 0, 1) := by decide +kernel
theorem dX7_quarrels_41 : decode cX7_quarrels 41 = .ok (.getfield 33, 3) := by decide +kernel
theorem dX7_quarrels_44 : decode cX7_quarrels 44 = .ok (.invokevirtual 249, 3) := by decide +kernel
theorem dX7_quarrels_47 : decode cX7_quarrels 47 = .ok (.ireturn, 1) := by decide +kernel
theorem dX7_quarrels_48 : decode cX7_quarrels 48 = .ok (.aload_n 0, 1) := by decide +kernel
theorem dX7_quarrels_49 : decode cX7_quarrels 49 = .ok (.getfield 33, 3) := by decide +kernel
theorem dX7_quarrels_52 : decode cX7_quarrels 52 = .ok (.invokevirtual 252, 3) := by decide +kernel
theorem dX7_quarrels_55 : decode cX7_quarrels 55 = .ok (.ireturn, 1) := by decide +kernel
theorem dX7_quarrels_56 : decode cX7_quarrels 56 = .ok (.ldc 75, 2) := by decide +kernel
theorem dX7_quarrels_58 : decode cX7_quarrels 58 = .ok (.ireturn, 1) := by decide +kernel
theorem dX7_who_0 : decode cX7_who 0 = .ok (.aload_n 0, 1) := by decide +kernel
theorem dX7_who_1 : decode cX7_who 1 = .ok (.getfield 33, 3) := by decide +kernel
theorem dX7_who_4 : decode cX7_who 4 = .ok (.iload_n 1, 1) := by decide +kernel
theorem dX7_who_5 : decode cX7_who 5 = .ok (.invokevirtual 171, 3) := by decide +kernel
theorem dX7_who_8 : decode cX7_who 8 = .ok (.ifCond .eq 30, 3) := by decide +kernel
theorem dX7_who_11 : decode cX7_who 11 = .ok (.iload_n 2, 1) := by decide +kernel
theorem dX7_who_12 : decode cX7_who 12 = .ok (.iconst 0, 1) := by decide +kernel
theorem dX7_who_13 : decode cX7_who 13 = .ok (.iconst 4, 1) := by decide +kernel
theorem dX7_who_14 : decode cX7_who 14 = .ok (.invokestatic 71, 3) := by decide +kernel
theorem dX7_who_17 : decode cX7_who 17 = .ok (.ifCond .eq 21, 3) := by decide +kernel
theorem dX7_who_20 : decode cX7_who 20 = .ok (.iload_n 3, 1) := by decide +kernel
theorem dX7_who_21 : decode cX7_who 21 = .ok (.invokestatic 67, 3) := by decide +kernel
theorem dX7_who_24 : decode cX7_who 24 = .ok (.ifCond .eq 14, 3) := by decide +kernel
theorem dX7_who_27 : decode cX7_who 27 = .ok (.iload 5, 2) := by decide +kernel
theorem dX7_who_29 : decode cX7_who 29 = .ok (.iconst 1, 1) := by decide +kernel
theorem dX7_who_30 : decode cX7_who 30 = .ok (.bipush 12, 2) := by decide +kernel
theorem dX7_who_32 : decode cX7_who 32 = .ok (.invokestatic 71, 3) := by decide +kernel
theorem dX7_who_35 : decode cX7_who 35 = .ok (.ifCond .ne 6, 3) := by decide +kernel
theorem dX7_who_38 : decode cX7_who 38 = .ok (.ldc 75, 2) := by decide +kernel
theorem dX7_who_40 : decode cX7_who 40 = .ok (.ireturn, 1) := by decide +kernel
theorem dX7_who_41 : decode cX7_who 41 = .ok (.aload_n 0, 1) := by decide +kernel
theorem dX7_who_42 : decode cX7_who 42 = .ok (.iload_n 1, 1) := by decide +kernel
theorem dX7_who_43 : decode cX7_who 43 = .ok (.iload_n 3, 1) := by decide +kernel
theorem dX7_who_44 : decode cX7_who 44 = .ok (.iload 4, 2) := by decide +kernel
theorem dX7_who_46 : decode cX7_who 46 = .ok (.iload 5, 2) := by decide +kernel
theorem dX7_who_48 : decode cX7_who 48 = .ok (.invokevirtual 255, 3) := by decide +kernel
theorem dX7_who_51 : decode cX7_who 51 = .ok (.istore 6, 2) := by decide +kernel
theorem dX7_who_53 : decode cX7_who 53 = .ok (.iload 6, 2) := by decide +kernel
theorem dX7_who_55 : decode cX7_who 55 = .ok (.ifCond .eq 10, 3) := by decide +kernel
theorem dX7_who_58 : decode cX7_who 58 = .ok (.aload_n 0, 1) := by decide +kernel
theorem dX7_who_59 : decode cX7_who 59 = .ok (.iload 6, 2) := by decide +kernel
theorem dX7_who_61 : decode cX7_who 61 = .ok (.invokevirtual 76, 3) := by decide +kernel
theorem dX7_who_64 : decode cX7_who 64 = .ok (.ireturn, 1) := by decide +kernel
theorem dX7_who_65 : decode cX7_who 65 = .ok (.aload_n 0, 1) := by decide +kernel
theorem dX7_who_66 : decode cX7_who 66 = .ok (.aload_n 0, 1) := by decide +kernel
theorem dX7_who_67 : decode cX7_who 67 = .ok (.getfield 25, 3) := by decide +kernel
theorem dX7_who_70 : decode cX7_who 70 = .ok (.iload_n 2, 1) := by decide +kernel
theorem dX7_who_71 : decode cX7_who 71 = .ok (.invokevirtual 259, 3) := by decide +kernel
theorem dX7_who_74 : decode cX7_who 74 = .ok (.invokevirtual 84, 3) := by decide +kernel
theorem dX7_who_77 : decode cX7_who 77 = .ok (.ireturn, 1) := by decide +kernel
theorem dX7_winds_0 : decode cX7_winds 0 = .ok (.aload_n 0, 1) := by decide +kernel
theorem dX7_winds_1 : decode cX7_winds 1 = .ok (.getfield 33, 3) := by decide +kernel
theorem dX7_winds_4 : decode cX7_winds 4 = .ok (.iload_n 1, 1) := by decide +kernel
theorem dX7_winds_5 : decode cX7_winds 5 = .ok (.invokevirtual 171, 3) := by decide +kernel
theorem dX7_winds_8 : decode cX7_winds 8 = .ok (.ifCond .eq 32, 3) := by decide +kernel
theorem dX7_winds_11 : decode cX7_winds 11 = .ok (.aload_n 0, 1) := by decide +kernel
theorem dX7_winds_12 : decode cX7_winds 12 = .ok (.getfield 33, 3) := by decide +kernel
theorem dX7_winds_15 : decode cX7_winds 15 = .ok (.iload_n 2, 1) := by decide +kernel
theorem dX7_winds_16 : decode cX7_winds 16 = .ok (.invokevirtual 201, 3) := by decide +kernel
theorem dX7_winds_19 : decode cX7_winds 19 = .ok (.ifCond .eq 21, 3) := by decide +kernel
theorem dX7_winds_22 : decode cX7_winds 22 = .ok (.iload_n 3, 1) := by decide +kernel
theorem dX7_winds_23 : decode cX7_winds 23 = .ok (.invokestatic 67, 3) := by decide +kernel
theorem dX7_winds_26 : decode cX7_winds 26 = .ok (.ifCond .eq 14, 3) := by decide +kernel
theorem dX7_winds_29 : decode cX7_winds 29 = .ok (.iload 5, 2) := by decide +kernel
theorem dX7_winds_31 : decode cX7_winds 31 = .ok (.iconst 1, 1) := by decide +kernel
theorem dX7_winds_32 : decode cX7_winds 32 = .ok (.bipush 12, 2) := by decide +kernel
theorem dX7_winds_34 : decode cX7_winds 34 = .ok (.invokestatic 71, 3) := by decide +kernel
theorem dX7_winds_37 : decode cX7_winds 37 = .ok (.ifCond .ne 6, 3) := by decide +kernel
theorem dX7_winds_40 : decode cX7_winds 40 = .ok (.ldc 75, 2) := by decide +kernel
theorem dX7_winds_42 : decode cX7_winds 42 = .ok (.ireturn, 1) := by decide +kernel
theorem dX7_winds_43 : decode cX7_winds 43 = .ok (.aload_n 0, 1) := by decide +kernel
theorem dX7_winds_44 : decode cX7_winds 44 = .ok (.iload_n 1, 1) := by decide +kernel
theorem dX7_winds_45 : decode cX7_winds 45 = .ok (.iload_n 3, 1) := by decide +kernel
theorem dX7_winds_46 : decode cX7_winds 46 = .ok (.iload 4, 2) := by decide +kernel
theorem dX7_winds_48 : decode cX7_winds 48 = .ok (.iload 5, 2) := by decide +kernel
theorem dX7_winds_50 : decode cX7_winds 50 = .ok (.invokevirtual 255, 3) := by decide +kernel
theorem dX7_winds_53 : decode cX7_winds 53 = .ok (.istore 6, 2) := by decide +kernel
theorem dX7_winds_55 : decode cX7_winds 55 = .ok (.iload 6, 2) := by decide +kernel
theorem dX7_winds_57 : decode cX7_winds 57 = .ok (.ifCond .eq 10, 3) := by decide +kernel
theorem dX7_winds_60 : decode cX7_winds 60 = .ok (.aload_n 0, 1) := by decide +kernel
theorem dX7_winds_61 : decode cX7_winds 61 = .ok (.iload 6, 2) := by decide +kernel
theorem dX7_winds_63 : decode cX7_winds 63 = .ok (.invokevirtual 76, 3) := by decide +kernel
theorem dX7_winds_66 : decode cX7_winds 66 = .ok (.ireturn, 1) := by decide +kernel
theorem dX7_winds_67 : decode cX7_winds 67 = .ok (.aload_n 0, 1) := by decide +kernel
theorem dX7_winds_68 : decode cX7_winds 68 = .ok (.aload_n 0, 1) := by decide +kernel
theorem dX7_winds_69 : decode cX7_winds 69 = .ok (.getfield 25, 3) := by decide +kernel
theorem dX7_winds_72 : decode cX7_winds 72 = .ok (.iload_n 2, 1) := by decide +kernel
theorem dX7_winds_73 : decode cX7_winds 73 = .ok (.invokevirtual 262, 3) := by decide +kernel
theorem dX7_winds_76 : decode cX7_winds 76 = .ok (.invokevirtual 84, 3) := by decide +kernel
theorem dX7_winds_79 : decode cX7_winds 79 = .ok (.ireturn, 1) := by decide +kernel
theorem dX7_tapes_0 : decode cX7_tapes 0 = .ok (.aload_n 0, 1) := by decide +kernel
theorem dX7_tapes_1 : decode cX7_tapes 1 = .ok (.getfield 33, 3) := by decide +kernel
theorem dX7_tapes_4 : decode cX7_tapes 4 = .ok (.iload_n 1, 1) := by decide +kernel
theorem dX7_tapes_5 : decode cX7_tapes 5 = .ok (.invokevirtual 171, 3) := by decide +kernel
theorem dX7_tapes_8 : decode cX7_tapes 8 = .ok (.ifCond .eq 30, 3) := by decide +kernel
theorem dX7_tapes_11 : decode cX7_tapes 11 = .ok (.iload_n 2, 1) := by decide +kernel
theorem dX7_tapes_12 : decode cX7_tapes 12 = .ok (.iconst 0, 1) := by decide +kernel
theorem dX7_tapes_13 : decode cX7_tapes 13 = .ok (.iconst 1, 1) := by decide +kernel
theorem dX7_tapes_14 : decode cX7_tapes 14 = .ok (.invokestatic 71, 3) := by decide +kernel
theorem dX7_tapes_17 : decode cX7_tapes 17 = .ok (.ifCond .eq 21, 3) := by decide +kernel
theorem dX7_tapes_20 : decode cX7_tapes 20 = .ok (.iload_n 3, 1) := by decide +kernel
theorem dX7_tapes_21 : decode cX7_tapes 21 = .ok (.invokestatic 67, 3) := by decide +kernel
theorem dX7_tapes_24 : decode cX7_tapes 24 = .ok (.ifCond .eq 14, 3) := by decide +kernel
theorem dX7_tapes_27 : decode cX7_tapes 27 = .ok (.iload 5, 2) := by decide +kernel
theorem dX7_tapes_29 : decode cX7_tapes 29 = .ok (.iconst 1, 1) := by decide +kernel
theorem dX7_tapes_30 : decode cX7_tapes 30 = .ok (.bipush 12, 2) := by decide +kernel
theorem dX7_tapes_32 : decode cX7_tapes 32 = .ok (.invokestatic 71, 3) := by decide +kernel
theorem dX7_tapes_35 : decode cX7_tapes 35 = .ok (.ifCond .ne 6, 3) := by decide +kernel
theorem dX7_tapes_38 : decode cX7_tapes 38 = .ok (.ldc 75, 2) := by decide +kernel
theorem dX7_tapes_40 : decode cX7_tapes 40 = .ok (.ireturn, 1) := by decide +kernel
theorem dX7_tapes_41 : decode cX7_tapes 41 = .ok (.aload_n 0, 1) := by decide +kernel
theorem dX7_tapes_42 : decode cX7_tapes 42 = .ok (.iload_n 1, 1) := by decide +kernel
theorem dX7_tapes_43 : decode cX7_tapes 43 = .ok (.iload_n 3, 1) := by decide +kernel
theorem dX7_tapes_44 : decode cX7_tapes 44 = .ok (.iload 4, 2) := by decide +kernel
theorem dX7_tapes_46 : decode cX7_tapes 46 = .ok (.iload 5, 2) := by decide +kernel
theorem dX7_tapes_48 : decode cX7_tapes 48 = .ok (.invokevirtual 255, 3) := by decide +kernel
theorem dX7_tapes_51 : decode cX7_tapes 51 = .ok (.istore 6, 2) := by decide +kernel
theorem dX7_tapes_53 : decode cX7_tapes 53 = .ok (.iload 6, 2) := by decide +kernel
theorem dX7_tapes_55 : decode cX7_tapes 55 = .ok (.ifCond .eq 10, 3) := by decide +kernel
theorem dX7_tapes_58 : decode cX7_tapes 58 = .ok (.aload_n 0, 1) := by decide +kernel
theorem dX7_tapes_59 : decode cX7_tapes 59 = .ok (.iload 6, 2) := by decide +kernel
theorem dX7_tapes_61 : decode cX7_tapes 61 = .ok (.invokevirtual 76, 3) := by decide +kernel
theorem dX7_tapes_64 : decode cX7_tapes 64 = .ok (.ireturn, 1) := by decide +kernel
theorem dX7_tapes_65 : decode cX7_tapes 65 = .ok (.aload_n 0, 1) := by decide +kernel
theorem dX7_tapes_66 : decode cX7_tapes 66 = .ok (.aload_n 0, 1) := by decide +kernel
theorem dX7_tapes_67 : decode cX7_tapes 67 = .ok (.getfield 25, 3) := by decide +kernel
theorem dX7_tapes_70 : decode cX7_tapes 70 = .ok (.iload_n 2, 1) := by decide +kernel
theorem dX7_tapes_71 : decode cX7_tapes 71 = .ok (.invokevirtual 265, 3) := by decide +kernel
theorem dX7_tapes_74 : decode cX7_tapes 74 = .ok (.invokevirtual 84, 3) := by decide +kernel
theorem dX7_tapes_77 : decode cX7_tapes 77 = .ok (.ireturn, 1) := by decide +kernel
theorem dX7_calm_0 : decode cX7_calm 0 = .ok (.aload_n 0, 1) := by decide +kernel
theorem dX7_calm_1 : decode cX7_calm 1 = .ok (.getfield 33, 3) := by decide +kernel
theorem dX7_calm_4 : decode cX7_calm 4 = .ok (.iload_n 1, 1) := by decide +kernel
theorem dX7_calm_5 : decode cX7_calm 5 = .ok (.invokevirtual 171, 3) := by decide +kernel
theorem dX7_calm_8 : decode cX7_calm 8 = .ok (.ifCond .eq 33, 3) := by decide +kernel
theorem dX7_calm_11 : decode cX7_calm 11 = .ok (.iload_n 2, 1) := by decide +kernel
theorem dX7_calm_12 : decode cX7_calm 12 = .ok (.iconst 0, 1) := by decide +kernel
theorem dX7_calm_13 : decode cX7_calm 13 = .ok (.bipush 8, 2) := by decide +kernel
theorem dX7_calm_15 : decode cX7_calm 15 = .ok (.invokestatic 71, 3) := by decide +kernel
theorem dX7_calm_18 : decode cX7_calm 18 = .ok (.ifCond .eq 23, 3) := by decide +kernel
theorem dX7_calm_21 : decode cX7_calm 21 = .ok (.iload_n 3, 1) := by decide +kernel
theorem dX7_calm_22 : decode cX7_calm 22 = .ok (.iconst 0, 1) := by decide +kernel
theorem dX7_calm_23 : decode cX7_calm 23 = .ok (.bipush 10, 2) := by decide +kernel
theorem dX7_calm_25 : decode cX7_calm 25 = .ok (.invokestatic 71, 3) := by decide +kernel
theorem dX7_calm_28 : decode cX7_calm 28 = .ok (.ifCond .eq 13, 3) := by decide +kernel
theorem dX7_calm_31 : decode cX7_calm 31 = .ok (.iload 4, 2) := by decide +kernel
theorem dX7_calm_33 : decode cX7_calm 33 = .ok (.iconst 0, 1) := by decide +kernel
theorem dX7_calm_34 : decode cX7_calm 34 = .ok (.iconst 1, 1) := by decide +kernel
theorem dX7_calm_35 : decode cX7_calm 35 = .ok (.invokestatic 71, 3) := by decide +kernel
theorem dX7_calm_38 : decode cX7_calm 38 = .ok (.ifCond .ne 7, 3) := by decide +kernel
theorem dX7_calm_41 : decode cX7_calm 41 = .ok (.ldc2_w 268, 3) := by decide +kernel
theorem dX7_calm_44 : decode cX7_calm 44 = .ok (.lreturn, 1) := by decide +kernel
theorem dX7_calm_45 : decode cX7_calm 45 = .ok (.aload_n 0, 1) := by decide +kernel
theorem dX7_calm_46 : decode cX7_calm 46 = .ok (.getfield 25, 3) := by decide +kernel
theorem dX7_calm_49 : decode cX7_calm 49 = .ok (.iload_n 1, 1) := by decide +kernel
theorem dX7_calm_50 : decode cX7_calm 50 = .ok (.iload_n 2, 1) := by decide +kernel
theorem dX7_calm_51 : decode cX7_calm 51 = .ok (.iload_n 3, 1) := by decide +kernel
theorem dX7_calm_52 : decode cX7_calm 52 = .ok (.invokevirtual 270, 3) := by decide +kernel
theorem dX7_calm_55 : decode cX7_calm 55 = .ok (.lstore 5, 2) := by decide +kernel
theorem dX7_calm_57 : decode cX7_calm 57 = .ok (.ldc2_w 274, 3) := by decide +kernel
theorem dX7_calm_60 : decode cX7_calm 60 = .ok (.iload_n 2, 1) := by decide +kernel
theorem dX7_calm_61 : decode cX7_calm 61 = .ok (.invokestatic 276, 3) := by decide +kernel
theorem dX7_calm_64 : decode cX7_calm 64 = .ok (.lstore 7, 2) := by decide +kernel
theorem dX7_calm_66 : decode cX7_calm 66 = .ok (.lload 5, 2) := by decide +kernel
theorem dX7_calm_68 : decode cX7_calm 68 = .ok (.lload 7, 2) := by decide +kernel
theorem dX7_calm_70 : decode cX7_calm 70 = .ok (.invokestatic 280, 3) := by decide +kernel
theorem dX7_calm_73 : decode cX7_calm 73 = .ok (.lstore 9, 2) := by decide +kernel
theorem dX7_calm_75 : decode cX7_calm 75 = .ok (.lload 9, 2) := by decide +kernel
theorem dX7_calm_77 : decode cX7_calm 77 = .ok (.lconst 0, 1) := by decide +kernel
theorem dX7_calm_78 : decode cX7_calm 78 = .ok (.lcmp, 1) := by decide +kernel
theorem dX7_calm_79 : decode cX7_calm 79 = .ok (.ifCond .ne 7, 3) := by decide +kernel
theorem dX7_calm_82 : decode cX7_calm 82 = .ok (.ldc2_w 268, 3) := by decide +kernel
theorem dX7_calm_85 : decode cX7_calm 85 = .ok (.lreturn, 1) := by decide +kernel
theorem dX7_calm_86 : decode cX7_calm 86 = .ok (.iload 4, 2) := by decide +kernel
theorem dX7_calm_88 : decode cX7_calm 88 = .ok (.ifCond .ne 8, 3) := by decide +kernel
theorem dX7_calm_91 : decode cX7_calm 91 = .ok (.lload 5, 2) := by decide +kernel
theorem dX7_calm_93 : decode cX7_calm 93 = .ok (.goto 5, 3) := by decide +kernel
theorem dX7_calm_96 : decode cX7_calm 96 = .ok (.lload 7, 2) := by decide +kernel
theorem dX7_calm_98 : decode cX7_calm 98 = .ok (.lload 9, 2) := by decide +kernel
theorem dX7_calm_100 : decode cX7_calm 100 = .ok (.ldiv, 1) := by decide +kernel
theorem dX7_calm_101 : decode cX7_calm 101 = .ok (.lreturn, 1) := by decide +kernel
theorem dX7_drawn_0 : decode cX7_drawn 0 = .ok (.aload_n 0, 1) := by decide +kernel
theorem dX7_drawn_1 : decode cX7_drawn 1 = .ok (.getfield 33, 3) := by decide +kernel
theorem dX7_drawn_4 : decode cX7_drawn 4 = .ok (.invokevirtual 152, 3) := by decide +kernel
theorem dX7_drawn_7 : decode cX7_drawn 7 = .ok (.ifCond .ne 6, 3) := by decide +kernel
theorem dX7_drawn_10 : decode cX7_drawn 10 = .ok (.ldc 148, 2) := by decide +kernel
theorem dX7_drawn_12 : decode cX7_drawn 12 = .ok (.ireturn, 1) := by decide +kernel
theorem dX7_drawn_13 : decode cX7_drawn 13 = .ok (.iload_n 1, 1) := by decide +kernel
theorem dX7_drawn_14 : decode cX7_drawn 14 = .ok (.iconst 0, 1) := by decide +kernel
theorem dX7_drawn_15 : decode cX7_drawn 15 = .ok (.bipush 60, 2) := by decide +kernel
theorem dX7_drawn_17 : decode cX7_drawn 17 = .ok (.invokestatic 71, 3) := by decide +kernel
theorem dX7_drawn_20 : decode cX7_drawn 20 = .ok (.ifCond .eq 23, 3) := by decide +kernel
theorem dX7_drawn_23 : decode cX7_drawn 23 = .ok (.iload_n 2, 1) := by decide +kernel
theorem dX7_drawn_24 : decode cX7_drawn 24 = .ok (.iconst 1, 1) := by decide +kernel
theorem dX7_drawn_25 : decode cX7_drawn 25 = .ok (.ldc_w 284, 3) := by decide +kernel
theorem dX7_drawn_28 : decode cX7_drawn 28 = .ok (.invokestatic 71, 3) := by decide +kernel
theorem dX7_drawn_31 : decode cX7_drawn 31 = .ok (.ifCond .eq 12, 3) := by decide +kernel
theorem dX7_drawn_34 : decode cX7_drawn 34 = .ok (.iload_n 3, 1) := by decide +kernel
theorem dX7_drawn_35 : decode cX7_drawn 35 = .ok (.iconst 0, 1) := by decide +kernel
theorem dX7_drawn_36 : decode cX7_drawn 36 = .ok (.iconst 1, 1) := by decide +kernel
theorem dX7_drawn_37 : decode cX7_drawn 37 = .ok (.invokestatic 71, 3) := by decide +kernel
theorem dX7_drawn_40 : decode cX7_drawn 40 = .ok (.ifCond .ne 6, 3) := by decide +kernel
theorem dX7_drawn_43 : decode cX7_drawn 43 = .ok (.ldc 75, 2) := by decide +kernel
theorem dX7_drawn_45 : decode cX7_drawn 45 = .ok (.ireturn, 1) := by decide +kernel
theorem dX7_drawn_46 : decode cX7_drawn 46 = .ok (.aload_n 0, 1) := by decide +kernel
theorem dX7_drawn_47 : decode cX7_drawn 47 = .ok (.getfield 25, 3) := by decide +kernel
theorem dX7_drawn_50 : decode cX7_drawn 50 = .ok (.iload_n 1, 1) := by decide +kernel
theorem dX7_drawn_51 : decode cX7_drawn 51 = .ok (.iload_n 2, 1) := by decide +kernel
theorem dX7_drawn_52 : decode cX7_drawn 52 = .ok (.invokevirtual 285, 3) := by decide +kernel
theorem dX7_drawn_55 : decode cX7_drawn 55 = .ok (.iload_n 3, 1) := by decide +kernel
theorem dX7_drawn_56 : decode cX7_drawn 56 = .ok (.ifCond .ne 13, 3) := by decide +kernel
theorem dX7_drawn_59 : decode cX7_drawn 59 = .ok (.aload_n 0, 1) := by decide +kernel
theorem dX7_drawn_60 : decode cX7_drawn 60 = .ok (.getfield 37, 3) := by decide +kernel
theorem dX7_drawn_63 : decode cX7_drawn 63 = .ok (.invokevirtual 167, 3) := by decide +kernel
theorem dX7_drawn_66 : decode cX7_drawn 66 = .ok (.goto 11, 3) := by decide +kernel
theorem dX7_drawn_69 : decode cX7_drawn 69 = .ok (.aload_n 0, 1) := by decide +kernel
theorem dX7_drawn_70 : decode cX7_drawn 70 = .ok (.getfield 37, 3) := by decide +kernel
theorem dX7_drawn_73 : decode cX7_drawn 73 = .ok (.iconst 2, 1) := by decide +kernel
theorem dX7_drawn_74 : decode cX7_drawn 74 = .ok (.invokevirtual 186, 3) := by decide +kernel
theorem dX7_drawn_77 : decode cX7_drawn 77 = .ok (.invokestatic 288, 3) := by decide +kernel
theorem dX7_drawn_80 : decode cX7_drawn 80 = .ok (.ireturn, 1) := by decide +kernel
theorem dX7_image_0 : decode cX7_image 0 = .ok (.iload_n 1, 1) := by decide +kernel
theorem dX7_image_1 : decode cX7_image 1 = .ok (.iconst 0, 1) := by decide +kernel
theorem dX7_image_2 : decode cX7_image 2 = .ok (.iconst 1, 1) := by decide +kernel
theorem dX7_image_3 : decode cX7_image 3 = .ok (.invokestatic 71, 3) := by decide +kernel
theorem dX7_image_6 : decode cX7_image 6 = .ok (.ifCond .ne 6, 3) := by decide +kernel
theorem dX7_image_9 : decode cX7_image 9 = .ok (.ldc 75, 2) := by decide +kernel
theorem dX7_image_11 : decode cX7_image 11 = .ok (.ireturn, 1) := by decide +kernel
theorem dX7_image_12 : decode cX7_image 12 = .ok (.aload_n 0, 1) := by decide +kernel
theorem dX7_image_13 : decode cX7_image 13 = .ok (.getfield 33, 3) := by decide +kernel
theorem dX7_image_16 : decode cX7_image 16 = .ok (.invokevirtual 152, 3) := by decide +kernel
theorem dX7_image_19 : decode cX7_image 19 = .ok (.ifCond .ne 6, 3) := by decide +kernel
theorem dX7_image_22 : decode cX7_image 22 = .ok (.ldc 148, 2) := by decide +kernel
theorem dX7_image_24 : decode cX7_image 24 = .ok (.ireturn, 1) := by decide +kernel
theorem dX7_image_25 : decode cX7_image 25 = .ok (.aload_n 0, 1) := by decide +kernel
theorem dX7_image_26 : decode cX7_image 26 = .ok (.getfield 47, 3) := by decide +kernel
theorem dX7_image_29 : decode cX7_image 29 = .ok (.iload_n 1, 1) := by decide +kernel
theorem dX7_image_30 : decode cX7_image 30 = .ok (.aaload, 1) := by decide +kernel
theorem dX7_image_31 : decode cX7_image 31 = .ok (.aload_n 0, 1) := by decide +kernel
theorem dX7_image_32 : decode cX7_image 32 = .ok (.getfield 33, 3) := by decide +kernel
theorem dX7_image_35 : decode cX7_image 35 = .ok (.invokevirtual 135, 3) := by decide +kernel
theorem dX7_image_38 : decode cX7_image 38 = .ok (.iconst 1, 1) := by decide +kernel
theorem dX7_image_39 : decode cX7_image 39 = .ok (.ireturn, 1) := by decide +kernel
theorem dX7_restore_0 : decode cX7_restore 0 = .ok (.iload_n 1, 1) := by decide +kernel
theorem dX7_restore_1 : decode cX7_restore 1 = .ok (.iconst 0, 1) := by decide +kernel
theorem dX7_restore_2 : decode cX7_restore 2 = .ok (.iconst 1, 1) := by decide +kernel
theorem dX7_restore_3 : decode cX7_restore 3 = .ok (.invokestatic 71, 3) := by decide +kernel
theorem dX7_restore_6 : decode cX7_restore 6 = .ok (.ifCond .ne 6, 3) := by decide +kernel
theorem dX7_restore_9 : decode cX7_restore 9 = .ok (.ldc 75, 2) := by decide +kernel
theorem dX7_restore_11 : decode cX7_restore 11 = .ok (.ireturn, 1) := by decide +kernel
theorem dX7_restore_12 : decode cX7_restore 12 = .ok (.aload_n 0, 1) := by decide +kernel
theorem dX7_restore_13 : decode cX7_restore 13 = .ok (.getfield 47, 3) := by decide +kernel
theorem dX7_restore_16 : decode cX7_restore 16 = .ok (.iload_n 1, 1) := by decide +kernel
theorem dX7_restore_17 : decode cX7_restore 17 = .ok (.aaload, 1) := by decide +kernel
theorem dX7_restore_18 : decode cX7_restore 18 = .ok (.invokevirtual 152, 3) := by decide +kernel
theorem dX7_restore_21 : decode cX7_restore 21 = .ok (.ifCond .ne 6, 3) := by decide +kernel
theorem dX7_restore_24 : decode cX7_restore 24 = .ok (.ldc 148, 2) := by decide +kernel
theorem dX7_restore_26 : decode cX7_restore 26 = .ok (.ireturn, 1) := by decide +kernel
theorem dX7_restore_27 : decode cX7_restore 27 = .ok (.aload_n 0, 1) := by decide +kernel
theorem dX7_restore_28 : decode cX7_restore 28 = .ok (.getfield 33, 3) := by decide +kernel
theorem dX7_restore_31 : decode cX7_restore 31 = .ok (.aload_n 0, 1) := by decide +kernel
theorem dX7_restore_32 : decode cX7_restore 32 = .ok (.getfield 47, 3) := by decide +kernel
theorem dX7_restore_35 : decode cX7_restore 35 = .ok (.iload_n 1, 1) := by decide +kernel
theorem dX7_restore_36 : decode cX7_restore 36 = .ok (.aaload, 1) := by decide +kernel
theorem dX7_restore_37 : decode cX7_restore 37 = .ok (.invokevirtual 135, 3) := by decide +kernel
theorem dX7_restore_40 : decode cX7_restore 40 = .ok (.aload_n 0, 1) := by decide +kernel
theorem dX7_restore_41 : decode cX7_restore 41 = .ok (.getfield 41, 3) := by decide +kernel
theorem dX7_restore_44 : decode cX7_restore 44 = .ok (.invokevirtual 139, 3) := by decide +kernel
theorem dX7_restore_47 : decode cX7_restore 47 = .ok (.iconst 1, 1) := by decide +kernel
theorem dX7_restore_48 : decode cX7_restore 48 = .ok (.ireturn, 1) := by decide +kernel
theorem dX7_kind_0 : decode cX7_kind 0 = .ok (.aload_n 0, 1) := by decide +kernel
theorem dX7_kind_1 : decode cX7_kind 1 = .ok (.getfield 33, 3) := by decide +kernel
theorem dX7_kind_4 : decode cX7_kind 4 = .ok (.iload_n 1, 1) := by decide +kernel
theorem dX7_kind_5 : decode cX7_kind 5 = .ok (.invokevirtual 171, 3) := by decide +kernel
theorem dX7_kind_8 : decode cX7_kind 8 = .ok (.ifCond .ne 6, 3) := by decide +kernel
theorem dX7_kind_11 : decode cX7_kind 11 = .ok (.ldc 75, 2) := by decide +kernel
theorem dX7_kind_13 : decode cX7_kind 13 = .ok (.ireturn, 1) := by decide +kernel
theorem dX7_kind_14 : decode cX7_kind 14 = .ok (.aload_n 0, 1) := by decide +kernel
theorem dX7_kind_15 : decode cX7_kind 15 = .ok (.getfield 33, 3) := by decide +kernel
theorem dX7_kind_18 : decode cX7_kind 18 = .ok (.getfield 174, 3) := by decide +kernel
theorem dX7_kind_21 : decode cX7_kind 21 = .ok (.iload_n 1, 1) := by decide +kernel
theorem dX7_kind_22 : decode cX7_kind 22 = .ok (.aaload, 1) := by decide +kernel
theorem dX7_kind_23 : decode cX7_kind 23 = .ok (.getfield 293, 3) := by decide +kernel
theorem dX7_kind_26 : decode cX7_kind 26 = .ok (.ireturn, 1) := by decide +kernel
theorem dX7_as_0 : decode cX7_as 0 = .ok (.aload_n 0, 1) := by decide +kernel
theorem dX7_as_1 : decode cX7_as 1 = .ok (.getfield 33, 3) := by decide +kernel
theorem dX7_as_4 : decode cX7_as 4 = .ok (.iload_n 1, 1) := by decide +kernel
theorem dX7_as_5 : decode cX7_as 5 = .ok (.invokevirtual 171, 3) := by decide +kernel
theorem dX7_as_8 : decode cX7_as 8 = .ok (.ifCond .eq 12, 3) := by decide +kernel
theorem dX7_as_11 : decode cX7_as 11 = .ok (.iload_n 2, 1) := by decide +kernel
theorem dX7_as_12 : decode cX7_as 12 = .ok (.iconst 0, 1) := by decide +kernel
theorem dX7_as_13 : decode cX7_as 13 = .ok (.iconst 5, 1) := by decide +kernel
theorem dX7_as_14 : decode cX7_as 14 = .ok (.invokestatic 71, 3) := by decide +kernel
theorem dX7_as_17 : decode cX7_as 17 = .ok (.ifCond .ne 6, 3) := by decide +kernel
theorem dX7_as_20 : decode cX7_as 20 = .ok (.ldc 75, 2) := by decide +kernel
theorem dX7_as_22 : decode cX7_as 22 = .ok (.ireturn, 1) := by decide +kernel
theorem dX7_as_23 : decode cX7_as 23 = .ok (.aload_n 0, 1) := by decide +kernel
theorem dX7_as_24 : decode cX7_as 24 = .ok (.getfield 33, 3) := by decide +kernel
theorem dX7_as_27 : decode cX7_as 27 = .ok (.getfield 174, 3) := by decide +kernel
theorem dX7_as_30 : decode cX7_as 30 = .ok (.iload_n 1, 1) := by decide +kernel
theorem dX7_as_31 : decode cX7_as 31 = .ok (.aaload, 1) := by decide +kernel
theorem dX7_as_32 : decode cX7_as 32 = .ok (.iload_n 2, 1) := by decide +kernel
theorem dX7_as_33 : decode cX7_as 33 = .ok (.invokevirtual 296, 3) := by decide +kernel
theorem dX7_as_36 : decode cX7_as 36 = .ok (.ifCond .ne 9, 3) := by decide +kernel
theorem dX7_as_39 : decode cX7_as 39 = .ok (.aload_n 0, 1) := by decide +kernel
theorem dX7_as_40 : decode cX7_as 40 = .ok (.iconst 3, 1) := by decide +kernel
theorem dX7_as_41 : decode cX7_as 41 = .ok (.invokevirtual 76, 3) := by decide +kernel
theorem dX7_as_44 : decode cX7_as 44 = .ok (.ireturn, 1) := by decide +kernel
theorem dX7_as_45 : decode cX7_as 45 = .ok (.aload_n 0, 1) := by decide +kernel
theorem dX7_as_46 : decode cX7_as 46 = .ok (.iload_n 1, 1) := by decide +kernel
theorem dX7_as_47 : decode cX7_as 47 = .ok (.invokevirtual 84, 3) := by decide +kernel
theorem dX7_as_50 : decode cX7_as 50 = .ok (.ireturn, 1) := by decide +kernel
theorem dX7_ask_0 : decode cX7_ask 0 = .ok (.aload_n 0, 1) := by decide +kernel
theorem dX7_ask_1 : decode cX7_ask 1 = .ok (.getfield 33, 3) := by decide +kernel
theorem dX7_ask_4 : decode cX7_ask 4 = .ok (.iload_n 1, 1) := by decide +kernel
theorem dX7_ask_5 : decode cX7_ask 5 = .ok (.invokevirtual 171, 3) := by decide +kernel
theorem dX7_ask_8 : decode cX7_ask 8 = .ok (.ifCond .eq 12, 3) := by decide +kernel
theorem dX7_ask_11 : decode cX7_ask 11 = .ok (.iload_n 2, 1) := by decide +kernel
theorem dX7_ask_12 : decode cX7_ask 12 = .ok (.iconst 0, 1) := by decide +kernel
theorem dX7_ask_13 : decode cX7_ask 13 = .ok (.iconst 1, 1) := by decide +kernel
theorem dX7_ask_14 : decode cX7_ask 14 = .ok (.invokestatic 71, 3) := by decide +kernel
theorem dX7_ask_17 : decode cX7_ask 17 = .ok (.ifCond .ne 6, 3) := by decide +kernel
theorem dX7_ask_20 : decode cX7_ask 20 = .ok (.ldc 75, 2) := by decide +kernel
theorem dX7_ask_22 : decode cX7_ask 22 = .ok (.ireturn, 1) := by decide +kernel
theorem dX7_ask_23 : decode cX7_ask 23 = .ok (.aload_n 0, 1) := by decide +kernel
theorem dX7_ask_24 : decode cX7_ask 24 = .ok (.getfield 33, 3) := by decide +kernel
theorem dX7_ask_27 : decode cX7_ask 27 = .ok (.getfield 174, 3) := by decide +kernel
theorem dX7_ask_30 : decode cX7_ask 30 = .ok (.iload_n 1, 1) := by decide +kernel
theorem dX7_ask_31 : decode cX7_ask 31 = .ok (.aaload, 1) := by decide +kernel
theorem dX7_ask_32 : decode cX7_ask 32 = .ok (.astore_n 3, 1) := by decide +kernel
theorem dX7_ask_33 : decode cX7_ask 33 = .ok (.aload_n 0, 1) := by decide +kernel
theorem dX7_ask_34 : decode cX7_ask 34 = .ok (.getfield 54, 3) := by decide +kernel
theorem dX7_ask_37 : decode cX7_ask 37 = .ok (.iload_n 2, 1) := by decide +kernel
theorem dX7_ask_38 : decode cX7_ask 38 = .ok (.ifCond .ne 10, 3) := by decide +kernel
theorem dX7_ask_41 : decode cX7_ask 41 = .ok (.aload_n 3, 1) := by decide +kernel
theorem dX7_ask_42 : decode cX7_ask 42 = .ok (.invokevirtual 299, 3) := by decide +kernel
theorem dX7_ask_45 : decode cX7_ask 45 = .ok (.goto 7, 3) := by decide +kernel
theorem dX7_ask_48 : decode cX7_ask 48 = .ok (.aload_n 3, 1) := by decide +kernel
theorem dX7_ask_49 : decode cX7_ask 49 = .ok (.invokevirtual 302, 3) := by decide +kernel
theorem dX7_ask_52 : decode cX7_ask 52 = .ok (.aload_n 3, 1) := by decide +kernel
theorem dX7_ask_53 : decode cX7_ask 53 = .ok (.iload_n 1, 1) := by decide +kernel
theorem dX7_ask_54 : decode cX7_ask 54 = .ok (.invokevirtual 305, 3) := by decide +kernel
theorem dX7_ask_57 : decode cX7_ask 57 = .ok (.ireturn, 1) := by decide +kernel
theorem dX7_trace_0 : decode cX7_trace 0 = .ok (.aload_n 0, 1) := by decide +kernel
theorem dX7_trace_1 : decode cX7_trace 1 = .ok (.getfield 54, 3) := by decide +kernel
theorem dX7_trace_4 : decode cX7_trace 4 = .ok (.iload_n 1, 1) := by decide +kernel
theorem dX7_trace_5 : decode cX7_trace 5 = .ok (.invokevirtual 308, 3) := by decide +kernel
theorem dX7_trace_8 : decode cX7_trace 8 = .ok (.ireturn, 1) := by decide +kernel
theorem dX7_count_0 : decode cX7_count 0 = .ok (.iload_n 1, 1) := by decide +kernel
theorem dX7_count_1 : decode cX7_count 1 = .ok (.tableswitch 116 0 7 #[47, 52, 60, 68, 76, 88, 100, 108], 47) := by decide +kernel
theorem dX7_count_48 : decode cX7_count 48 = .ok (.aload_n 0, 1) := by decide +kernel
theorem dX7_count_49 : decode cX7_count 49 = .ok (.invokevirtual 311, 3) := by decide +kernel
theorem dX7_count_52 : decode cX7_count 52 = .ok (.ireturn, 1) := by decide +kernel
theorem dX7_count_53 : decode cX7_count 53 = .ok (.aload_n 0, 1) := by decide +kernel
theorem dX7_count_54 : decode cX7_count 54 = .ok (.getfield 33, 3) := by decide +kernel
theorem dX7_count_57 : decode cX7_count 57 = .ok (.getfield 142, 3) := by decide +kernel
theorem dX7_count_60 : decode cX7_count 60 = .ok (.ireturn, 1) := by decide +kernel
theorem dX7_count_61 : decode cX7_count 61 = .ok (.aload_n 0, 1) := by decide +kernel
theorem dX7_count_62 : decode cX7_count 62 = .ok (.getfield 33, 3) := by decide +kernel
theorem dX7_count_65 : decode cX7_count 65 = .ok (.getfield 314, 3) := by decide +kernel
theorem dX7_count_68 : decode cX7_count 68 = .ok (.ireturn, 1) := by decide +kernel
theorem dX7_count_69 : decode cX7_count 69 = .ok (.aload_n 0, 1) := by decide +kernel
theorem dX7_count_70 : decode cX7_count 70 = .ok (.getfield 33, 3) := by decide +kernel
theorem dX7_count_73 : decode cX7_count 73 = .ok (.getfield 155, 3) := by decide +kernel
theorem dX7_count_76 : decode cX7_count 76 = .ok (.ireturn, 1) := by decide +kernel
theorem dX7_count_77 : decode cX7_count 77 = .ok (.aload_n 0, 1) := by decide +kernel
theorem dX7_count_78 : decode cX7_count 78 = .ok (.getfield 33, 3) := by decide +kernel
theorem dX7_count_81 : decode cX7_count 81 = .ok (.iconst 1, 1) := by decide +kernel
theorem dX7_count_82 : decode cX7_count 82 = .ok (.invokevirtual 186, 3) := by decide +kernel
theorem dX7_count_85 : decode cX7_count 85 = .ok (.invokestatic 288, 3) := by decide +kernel
theorem dX7_count_88 : decode cX7_count 88 = .ok (.ireturn, 1) := by decide +kernel
theorem dX7_count_89 : decode cX7_count 89 = .ok (.aload_n 0, 1) := by decide +kernel
theorem dX7_count_90 : decode cX7_count 90 = .ok (.getfield 33, 3) := by decide +kernel
theorem dX7_count_93 : decode cX7_count 93 = .ok (.iconst 2, 1) := by decide +kernel
theorem dX7_count_94 : decode cX7_count 94 = .ok (.invokevirtual 186, 3) := by decide +kernel
theorem dX7_count_97 : decode cX7_count 97 = .ok (.invokestatic 288, 3) := by decide +kernel
theorem dX7_count_100 : decode cX7_count 100 = .ok (.ireturn, 1) := by decide +kernel
theorem dX7_count_101 : decode cX7_count 101 = .ok (.aload_n 0, 1) := by decide +kernel
theorem dX7_count_102 : decode cX7_count 102 = .ok (.getfield 41, 3) := by decide +kernel
theorem dX7_count_105 : decode cX7_count 105 = .ok (.getfield 145, 3) := by decide +kernel
theorem dX7_count_108 : decode cX7_count 108 = .ok (.ireturn, 1) := by decide +kernel
theorem dX7_count_109 : decode cX7_count 109 = .ok (.aload_n 0, 1) := by decide +kernel
theorem dX7_count_110 : decode cX7_count 110 = .ok (.getfield 18, 3) := by decide +kernel
theorem dX7_count_113 : decode cX7_count 113 = .ok (.getfield 118, 3) := by decide +kernel
theorem dX7_count_116 : decode cX7_count 116 = .ok (.ireturn, 1) := by decide +kernel
theorem dX7_count_117 : decode cX7_count 117 = .ok (.ldc 75, 2) := by decide +kernel
theorem dX7_count_119 : decode cX7_count 119 = .ok (.ireturn, 1) := by decide +kernel
theorem dX7_status_0 : decode cX7_status 0 = .ok (.aload_n 0, 1) := by decide +kernel
theorem dX7_status_1 : decode cX7_status 1 = .ok (.getfield 62, 3) := by decide +kernel
theorem dX7_status_4 : decode cX7_status 4 = .ok (.ireturn, 1) := by decide +kernel
theorem dX7_found_0 : decode cX7_found 0 = .ok (.aload_n 0, 1) := by decide +kernel
theorem dX7_found_1 : decode cX7_found 1 = .ok (.iload_n 1, 1) := by decide +kernel
theorem dX7_found_2 : decode cX7_found 2 = .ok (.putfield 62, 3) := by decide +kernel
theorem dX7_found_5 : decode cX7_found 5 = .ok (.ldc_w 317, 3) := by decide +kernel
theorem dX7_found_8 : decode cX7_found 8 = .ok (.iload_n 1, 1) := by decide +kernel
theorem dX7_found_9 : decode cX7_found 9 = .ok (.isub, 1) := by decide +kernel
theorem dX7_found_10 : decode cX7_found 10 = .ok (.ireturn, 1) := by decide +kernel
theorem dX7_unfound_0 : decode cX7_unfound 0 = .ok (.aload_n 0, 1) := by decide +kernel
theorem dX7_unfound_1 : decode cX7_unfound 1 = .ok (.iconst 0, 1) := by decide +kernel
theorem dX7_unfound_2 : decode cX7_unfound 2 = .ok (.putfield 62, 3) := by decide +kernel
theorem dX7_unfound_5 : decode cX7_unfound 5 = .ok (.iload_n 1, 1) := by decide +kernel
theorem dX7_unfound_6 : decode cX7_unfound 6 = .ok (.ireturn, 1) := by decide +kernel
theorem dX7_watchRow_0 : decode cX7_watchRow 0 = .ok (.aload_n 0, 1) := by decide +kernel
theorem dX7_watchRow_1 : decode cX7_watchRow 1 = .ok (.getfield 11, 3) := by decide +kernel
theorem dX7_watchRow_4 : decode cX7_watchRow 4 = .ok (.iload_n 2, 1) := by decide +kernel
theorem dX7_watchRow_5 : decode cX7_watchRow 5 = .ok (.aaload, 1) := by decide +kernel
theorem dX7_watchRow_6 : decode cX7_watchRow 6 = .ok (.invokevirtual 87, 3) := by decide +kernel
theorem dX7_watchRow_9 : decode cX7_watchRow 9 = .ok (.ifCond .eq 5, 3) := by decide +kernel
theorem dX7_watchRow_12 : decode cX7_watchRow 12 = .ok (.iconst 1, 1) := by decide +kernel
theorem dX7_watchRow_13 : decode cX7_watchRow 13 = .ok (.ireturn, 1) := by decide +kernel
theorem dX7_watchRow_14 : decode cX7_watchRow 14 = .ok (.aload_n 0, 1) := by decide +kernel
theorem dX7_watchRow_15 : decode cX7_watchRow 15 = .ok (.getfield 11, 3) := by decide +kernel
theorem dX7_watchRow_18 : decode cX7_watchRow 18 = .ok (.iload_n 2, 1) := by decide +kernel
theorem dX7_watchRow_19 : decode cX7_watchRow 19 = .ok (.aaload, 1) := by decide +kernel
theorem dX7_watchRow_20 : decode cX7_watchRow 20 = .ok (.iload_n 3, 1) := by decide +kernel
theorem dX7_watchRow_21 : decode cX7_watchRow 21 = .ok (.iload 4, 2) := by decide +kernel
theorem dX7_watchRow_23 : decode cX7_watchRow 23 = .ok (.invokevirtual 91, 3) := by decide +kernel
theorem dX7_watchRow_26 : decode cX7_watchRow 26 = .ok (.ifCond .ne 5, 3) := by decide +kernel
theorem dX7_watchRow_29 : decode cX7_watchRow 29 = .ok (.iconst 2, 1) := by decide +kernel
theorem dX7_watchRow_30 : decode cX7_watchRow 30 = .ok (.ireturn, 1) := by decide +kernel
theorem dX7_watchRow_31 : decode cX7_watchRow 31 = .ok (.aload_n 0, 1) := by decide +kernel
theorem dX7_watchRow_32 : decode cX7_watchRow 32 = .ok (.getfield 25, 3) := by decide +kernel
theorem dX7_watchRow_35 : decode cX7_watchRow 35 = .ok (.iload_n 1, 1) := by decide +kernel
theorem dX7_watchRow_36 : decode cX7_watchRow 36 = .ok (.aload_n 0, 1) := by decide +kernel
theorem dX7_watchRow_37 : decode cX7_watchRow 37 = .ok (.getfield 11, 3) := by decide +kernel
theorem dX7_watchRow_40 : decode cX7_watchRow 40 = .ok (.iload_n 2, 1) := by decide +kernel
theorem dX7_watchRow_41 : decode cX7_watchRow 41 = .ok (.aaload, 1) := by decide +kernel
theorem dX7_watchRow_42 : decode cX7_watchRow 42 = .ok (.iload_n 3, 1) := by decide +kernel
theorem dX7_watchRow_43 : decode cX7_watchRow 43 = .ok (.iload 4, 2) := by decide +kernel
theorem dX7_watchRow_45 : decode cX7_watchRow 45 = .ok (.invokevirtual 318, 3) := by decide +kernel
theorem dX7_watchRow_48 : decode cX7_watchRow 48 = .ok (.iconst 0, 1) := by decide +kernel
theorem dX7_watchRow_49 : decode cX7_watchRow 49 = .ok (.ireturn, 1) := by decide +kernel
theorem dX7_isRow_0 : decode cX7_isRow 0 = .ok (.iload_n 0, 1) := by decide +kernel
theorem dX7_isRow_1 : decode cX7_isRow 1 = .ok (.iconst 0, 1) := by decide +kernel
theorem dX7_isRow_2 : decode cX7_isRow 2 = .ok (.bipush 7, 2) := by decide +kernel
theorem dX7_isRow_4 : decode cX7_isRow 4 = .ok (.invokestatic 71, 3) := by decide +kernel
theorem dX7_isRow_7 : decode cX7_isRow 7 = .ok (.ireturn, 1) := by decide +kernel
theorem dX7_rowCount_0 : decode cX7_rowCount 0 = .ok (.iconst 0, 1) := by decide +kernel
theorem dX7_rowCount_1 : decode cX7_rowCount 1 = .ok (.istore_n 1, 1) := by decide +kernel
theorem dX7_rowCount_2 : decode cX7_rowCount 2 = .ok (.iconst 0, 1) := by decide +kernel
theorem dX7_rowCount_3 : decode cX7_rowCount 3 = .ok (.istore_n 2, 1) := by decide +kernel
theorem dX7_rowCount_4 : decode cX7_rowCount 4 = .ok (.iload_n 2, 1) := by decide +kernel
theorem dX7_rowCount_5 : decode cX7_rowCount 5 = .ok (.bipush 8, 2) := by decide +kernel
theorem dX7_rowCount_7 : decode cX7_rowCount 7 = .ok (.if_icmp .ge 24, 3) := by decide +kernel
theorem dX7_rowCount_10 : decode cX7_rowCount 10 = .ok (.aload_n 0, 1) := by decide +kernel
theorem dX7_rowCount_11 : decode cX7_rowCount 11 = .ok (.getfield 11, 3) := by decide +kernel
theorem dX7_rowCount_14 : decode cX7_rowCount 14 = .ok (.iload_n 2, 1) := by decide +kernel
theorem dX7_rowCount_15 : decode cX7_rowCount 15 = .ok (.aaload, 1) := by decide +kernel
theorem dX7_rowCount_16 : decode cX7_rowCount 16 = .ok (.invokevirtual 87, 3) := by decide +kernel
theorem dX7_rowCount_19 : decode cX7_rowCount 19 = .ok (.ifCond .ne 6, 3) := by decide +kernel
theorem dX7_rowCount_22 : decode cX7_rowCount 22 = .ok (.iinc 1 1, 3) := by decide +kernel
theorem dX7_rowCount_25 : decode cX7_rowCount 25 = .ok (.iinc 2 1, 3) := by decide +kernel
theorem dX7_rowCount_28 : decode cX7_rowCount 28 = .ok (.goto (-24), 3) := by decide +kernel
theorem dX7_rowCount_31 : decode cX7_rowCount 31 = .ok (.iload_n 1, 1) := by decide +kernel
theorem dX7_rowCount_32 : decode cX7_rowCount 32 = .ok (.ireturn, 1) := by decide +kernel
theorem dX7_isWithin_0 : decode cX7_isWithin 0 = .ok (.iload_n 0, 1) := by decide +kernel
theorem dX7_isWithin_1 : decode cX7_isWithin 1 = .ok (.iload_n 1, 1) := by decide +kernel
theorem dX7_isWithin_2 : decode cX7_isWithin 2 = .ok (.if_icmp .lt 12, 3) := by decide +kernel
theorem dX7_isWithin_5 : decode cX7_isWithin 5 = .ok (.iload_n 0, 1) := by decide +kernel
theorem dX7_isWithin_6 : decode cX7_isWithin 6 = .ok (.iload_n 2, 1) := by decide +kernel
theorem dX7_isWithin_7 : decode cX7_isWithin 7 = .ok (.if_icmp .gt 7, 3) := by decide +kernel
theorem dX7_isWithin_10 : decode cX7_isWithin 10 = .ok (.iconst 1, 1) := by decide +kernel
theorem dX7_isWithin_11 : decode cX7_isWithin 11 = .ok (.goto 4, 3) := by decide +kernel
theorem dX7_isWithin_14 : decode cX7_isWithin 14 = .ok (.iconst 0, 1) := by decide +kernel
theorem dX7_isWithin_15 : decode cX7_isWithin 15 = .ok (.ireturn, 1) := by decide +kernel
theorem dX7_power_0 : decode cX7_power 0 = .ok (.lconst 1, 1) := by decide +kernel
theorem dX7_power_1 : decode cX7_power 1 = .ok (.lstore_n 3, 1) := by decide +kernel
theorem dX7_power_2 : decode cX7_power 2 = .ok (.iconst 0, 1) := by decide +kernel
theorem dX7_power_3 : decode cX7_power 3 = .ok (.istore 5, 2) := by decide +kernel
theorem dX7_power_5 : decode cX7_power 5 = .ok (.iload 5, 2) := by decide +kernel
theorem dX7_power_7 : decode cX7_power 7 = .ok (.iload_n 2, 1) := by decide +kernel
theorem dX7_power_8 : decode cX7_power 8 = .ok (.if_icmp .ge 13, 3) := by decide +kernel
theorem dX7_power_11 : decode cX7_power 11 = .ok (.lload_n 3, 1) := by decide +kernel
theorem dX7_power_12 : decode cX7_power 12 = .ok (.lload_n 0, 1) := by decide +kernel
theorem dX7_power_13 : decode cX7_power 13 = .ok (.lmul, 1) := by decide +kernel
theorem dX7_power_14 : decode cX7_power 14 = .ok (.lstore_n 3, 1) := by decide +kernel
theorem dX7_power_15 : decode cX7_power 15 = .ok (.iinc 5 1, 3) := by decide +kernel
theorem dX7_power_18 : decode cX7_power 18 = .ok (.goto (-13), 3) := by decide +kernel
theorem dX7_power_21 : decode cX7_power 21 = .ok (.lload_n 3, 1) := by decide +kernel
theorem dX7_power_22 : decode cX7_power 22 = .ok (.lreturn, 1) := by decide +kernel
theorem dX7_greatestDivisor_0 : decode cX7_greatestDivisor 0 = .ok (.iconst 0, 1) := by decide +kernel
theorem dX7_greatestDivisor_1 : decode cX7_greatestDivisor 1 = .ok (.istore 4, 2) := by decide +kernel
theorem dX7_greatestDivisor_3 : decode cX7_greatestDivisor 3 = .ok (.iload 4, 2) := by decide +kernel
theorem dX7_greatestDivisor_5 : decode cX7_greatestDivisor 5 = .ok (.bipush 100, 2) := by decide +kernel
theorem dX7_greatestDivisor_7 : decode cX7_greatestDivisor 7 = .ok (.if_icmp .ge 25, 3) := by decide +kernel
theorem dX7_greatestDivisor_10 : decode cX7_greatestDivisor 10 = .ok (.lload_n 2, 1) := by decide +kernel
theorem dX7_greatestDivisor_11 : decode cX7_greatestDivisor 11 = .ok (.lconst 0, 1) := by decide +kernel
theorem dX7_greatestDivisor_12 : decode cX7_greatestDivisor 12 = .ok (.lcmp, 1) := by decide +kernel
theorem dX7_greatestDivisor_13 : decode cX7_greatestDivisor 13 = .ok (.ifCond .eq 19, 3) := by decide +kernel
theorem dX7_greatestDivisor_16 : decode cX7_greatestDivisor 16 = .ok (.lload_n 0, 1) := by decide +kernel
theorem dX7_greatestDivisor_17 : decode cX7_greatestDivisor 17 = .ok (.lload_n 2, 1) := by decide +kernel
theorem dX7_greatestDivisor_18 : decode cX7_greatestDivisor 18 = .ok (.lrem, 1) := by decide +kernel
theorem dX7_greatestDivisor_19 : decode cX7_greatestDivisor 19 = .ok (.lstore 5, 2) := by decide +kernel
theorem dX7_greatestDivisor_21 : decode cX7_greatestDivisor 21 = .ok (.lload_n 2, 1) := by decide +kernel
theorem dX7_greatestDivisor_22 : decode cX7_greatestDivisor 22 = .ok (.lstore_n 0, 1) := by decide +kernel
theorem dX7_greatestDivisor_23 : decode cX7_greatestDivisor 23 = .ok (.lload 5, 2) := by decide +kernel
theorem dX7_greatestDivisor_25 : decode cX7_greatestDivisor 25 = .ok (.lstore_n 2, 1) := by decide +kernel
theorem dX7_greatestDivisor_26 : decode cX7_greatestDivisor 26 = .ok (.iinc 4 1, 3) := by decide +kernel
theorem dX7_greatestDivisor_29 : decode cX7_greatestDivisor 29 = .ok (.goto (-26), 3) := by decide +kernel
theorem dX7_greatestDivisor_32 : decode cX7_greatestDivisor 32 = .ok (.lload_n 0, 1) := by decide +kernel
theorem dX7_greatestDivisor_33 : decode cX7_greatestDivisor 33 = .ok (.lreturn, 1) := by decide +kernel
theorem dJ6_bitCount_0f7a4_0 : decode cJ6_bitCount_0f7a4 0 = .ok (.iload_n 0, 1) := by decide +kernel
theorem dJ6_bitCount_0f7a4_1 : decode cJ6_bitCount_0f7a4 1 = .ok (.iload_n 0, 1) := by decide +kernel
theorem dJ6_bitCount_0f7a4_2 : decode cJ6_bitCount_0f7a4 2 = .ok (.iconst 1, 1) := by decide +kernel
theorem dJ6_bitCount_0f7a4_3 : decode cJ6_bitCount_0f7a4 3 = .ok (.iushr, 1) := by decide +kernel
theorem dJ6_bitCount_0f7a4_4 : decode cJ6_bitCount_0f7a4 4 = .ok (.ldc_w 265, 3) := by decide +kernel
theorem dJ6_bitCount_0f7a4_7 : decode cJ6_bitCount_0f7a4 7 = .ok (.iand, 1) := by decide +kernel
theorem dJ6_bitCount_0f7a4_8 : decode cJ6_bitCount_0f7a4 8 = .ok (.isub, 1) := by decide +kernel
theorem dJ6_bitCount_0f7a4_9 : decode cJ6_bitCount_0f7a4 9 = .ok (.istore_n 0, 1) := by decide +kernel
theorem dJ6_bitCount_0f7a4_10 : decode cJ6_bitCount_0f7a4 10 = .ok (.iload_n 0, 1) := by decide +kernel
theorem dJ6_bitCount_0f7a4_11 : decode cJ6_bitCount_0f7a4 11 = .ok (.ldc_w 266, 3) := by decide +kernel
theorem dJ6_bitCount_0f7a4_14 : decode cJ6_bitCount_0f7a4 14 = .ok (.iand, 1) := by decide +kernel
theorem dJ6_bitCount_0f7a4_15 : decode cJ6_bitCount_0f7a4 15 = .ok (.iload_n 0, 1) := by decide +kernel
theorem dJ6_bitCount_0f7a4_16 : decode cJ6_bitCount_0f7a4 16 = .ok (.iconst 2, 1) := by decide +kernel
theorem dJ6_bitCount_0f7a4_17 : decode cJ6_bitCount_0f7a4 17 = .ok (.iushr, 1) := by decide +kernel
theorem dJ6_bitCount_0f7a4_18 : decode cJ6_bitCount_0f7a4 18 = .ok (.ldc_w 266, 3) := by decide +kernel
theorem dJ6_bitCount_0f7a4_21 : decode cJ6_bitCount_0f7a4 21 = .ok (.iand, 1) := by decide +kernel
theorem dJ6_bitCount_0f7a4_22 : decode cJ6_bitCount_0f7a4 22 = .ok (.iadd, 1) := by decide +kernel
theorem dJ6_bitCount_0f7a4_23 : decode cJ6_bitCount_0f7a4 23 = .ok (.istore_n 0, 1) := by decide +kernel
theorem dJ6_bitCount_0f7a4_24 : decode cJ6_bitCount_0f7a4 24 = .ok (.iload_n 0, 1) := by decide +kernel
theorem dJ6_bitCount_0f7a4_25 : decode cJ6_bitCount_0f7a4 25 = .ok (.iload_n 0, 1) := by decide +kernel
theorem dJ6_bitCount_0f7a4_26 : decode cJ6_bitCount_0f7a4 26 = .ok (.iconst 4, 1) := by decide +kernel
theorem dJ6_bitCount_0f7a4_27 : decode cJ6_bitCount_0f7a4 27 = .ok (.iushr, 1) := by decide +kernel
theorem dJ6_bitCount_0f7a4_28 : decode cJ6_bitCount_0f7a4 28 = .ok (.iadd, 1) := by decide +kernel
theorem dJ6_bitCount_0f7a4_29 : decode cJ6_bitCount_0f7a4 29 = .ok (.ldc_w 267, 3) := by decide +kernel
theorem dJ6_bitCount_0f7a4_32 : decode cJ6_bitCount_0f7a4 32 = .ok (.iand, 1) := by decide +kernel
theorem dJ6_bitCount_0f7a4_33 : decode cJ6_bitCount_0f7a4 33 = .ok (.istore_n 0, 1) := by decide +kernel
theorem dJ6_bitCount_0f7a4_34 : decode cJ6_bitCount_0f7a4 34 = .ok (.iload_n 0, 1) := by decide +kernel
theorem dJ6_bitCount_0f7a4_35 : decode cJ6_bitCount_0f7a4 35 = .ok (.iload_n 0, 1) := by decide +kernel
theorem dJ6_bitCount_0f7a4_36 : decode cJ6_bitCount_0f7a4 36 = .ok (.bipush 8, 2) := by decide +kernel
theorem dJ6_bitCount_0f7a4_38 : decode cJ6_bitCount_0f7a4 38 = .ok (.iushr, 1) := by decide +kernel
theorem dJ6_bitCount_0f7a4_39 : decode cJ6_bitCount_0f7a4 39 = .ok (.iadd, 1) := by decide +kernel
theorem dJ6_bitCount_0f7a4_40 : decode cJ6_bitCount_0f7a4 40 = .ok (.istore_n 0, 1) := by decide +kernel
theorem dJ6_bitCount_0f7a4_41 : decode cJ6_bitCount_0f7a4 41 = .ok (.iload_n 0, 1) := by decide +kernel
theorem dJ6_bitCount_0f7a4_42 : decode cJ6_bitCount_0f7a4 42 = .ok (.iload_n 0, 1) := by decide +kernel
theorem dJ6_bitCount_0f7a4_43 : decode cJ6_bitCount_0f7a4 43 = .ok (.bipush 16, 2) := by decide +kernel
theorem dJ6_bitCount_0f7a4_45 : decode cJ6_bitCount_0f7a4 45 = .ok (.iushr, 1) := by decide +kernel
theorem dJ6_bitCount_0f7a4_46 : decode cJ6_bitCount_0f7a4 46 = .ok (.iadd, 1) := by decide +kernel
theorem dJ6_bitCount_0f7a4_47 : decode cJ6_bitCount_0f7a4 47 = .ok (.istore_n 0, 1) := by decide +kernel
theorem dJ6_bitCount_0f7a4_48 : decode cJ6_bitCount_0f7a4 48 = .ok (.iload_n 0, 1) := by decide +kernel
theorem dJ6_bitCount_0f7a4_49 : decode cJ6_bitCount_0f7a4 49 = .ok (.bipush 63, 2) := by decide +kernel
theorem dJ6_bitCount_0f7a4_51 : decode cJ6_bitCount_0f7a4 51 = .ok (.iand, 1) := by decide +kernel
theorem dJ6_bitCount_0f7a4_52 : decode cJ6_bitCount_0f7a4 52 = .ok (.ireturn, 1) := by decide +kernel
theorem dJ9_max_7cf53_0 : decode cJ9_max_7cf53 0 = .ok (.iload_n 0, 1) := by decide +kernel
theorem dJ9_max_7cf53_1 : decode cJ9_max_7cf53 1 = .ok (.iload_n 1, 1) := by decide +kernel
theorem dJ9_max_7cf53_2 : decode cJ9_max_7cf53 2 = .ok (.if_icmp .lt 7, 3) := by decide +kernel
theorem dJ9_max_7cf53_5 : decode cJ9_max_7cf53 5 = .ok (.iload_n 0, 1) := by decide +kernel
theorem dJ9_max_7cf53_6 : decode cJ9_max_7cf53 6 = .ok (.goto 4, 3) := by decide +kernel
theorem dJ9_max_7cf53_9 : decode cJ9_max_7cf53 9 = .ok (.iload_n 1, 1) := by decide +kernel
theorem dJ9_max_7cf53_10 : decode cJ9_max_7cf53 10 = .ok (.ireturn, 1) := by decide +kernel
theorem dJ9_min_7cf53_0 : decode cJ9_min_7cf53 0 = .ok (.iload_n 0, 1) := by decide +kernel
theorem dJ9_min_7cf53_1 : decode cJ9_min_7cf53 1 = .ok (.iload_n 1, 1) := by decide +kernel
theorem dJ9_min_7cf53_2 : decode cJ9_min_7cf53 2 = .ok (.if_icmp .gt 7, 3) := by decide +kernel
theorem dJ9_min_7cf53_5 : decode cJ9_min_7cf53 5 = .ok (.iload_n 0, 1) := by decide +kernel
theorem dJ9_min_7cf53_6 : decode cJ9_min_7cf53 6 = .ok (.goto 4, 3) := by decide +kernel
theorem dJ9_min_7cf53_9 : decode cJ9_min_7cf53 9 = .ok (.iload_n 1, 1) := by decide +kernel
theorem dJ9_min_7cf53_10 : decode cJ9_min_7cf53 10 = .ok (.ireturn, 1) := by decide +kernel
end
section
theorem dX8_init_0 : decode cX8_init 0 = .ok (.aload_n 0, 1) := by decide +kernel
theorem dX8_init_1 : decode cX8_init 1 = .ok (.invokespecial 1, 3) := by decide +kernel
theorem dX8_init_4 : decode cX8_init 4 = .ok (.aload_n 0, 1) := by decide +kernel
theorem dX8_init_5 : decode cX8_init 5 = .ok (.bipush 8, 2) := by decide +kernel
theorem dX8_init_7 : decode cX8_init 7 = .ok (.newarray .int, 2) := by decide +kernel
theorem dX8_init_9 : decode cX8_init 9 = .ok (.dup, 1) := by decide +kernel
theorem dX8_init_10 : decode cX8_init 10 = .ok (.iconst 0, 1) := by decide +kernel
theorem dX8_init_11 : decode cX8_init 11 = .ok (.iconst (-1), 1) := by decide +kernel
theorem dX8_init_12 : decode cX8_init 12 = .ok (.iastore, 1) := by decide +kernel
theorem dX8_init_13 : decode cX8_init 13 = .ok (.dup, 1) := by decide +kernel
theorem dX8_init_14 : decode cX8_init 14 = .ok (.iconst 1, 1) := by decide +kernel
theorem dX8_init_15 : decode cX8_init 15 = .ok (.iconst (-1), 1) := by decide +kernel
theorem dX8_init_16 : decode cX8_init 16 = .ok (.iastore, 1) := by decide +kernel
theorem dX8_init_17 : decode cX8_init 17 = .ok (.dup, 1) := by decide +kernel
theorem dX8_init_18 : decode cX8_init 18 = .ok (.iconst 2, 1) := by decide +kernel
theorem dX8_init_19 : decode cX8_init 19 = .ok (.iconst (-1), 1) := by decide +kernel
theorem dX8_init_20 : decode cX8_init 20 = .ok (.iastore, 1) := by decide +kernel
theorem dX8_init_21 : decode cX8_init 21 = .ok (.dup, 1) := by decide +kernel
theorem dX8_init_22 : decode cX8_init 22 = .ok (.iconst 3, 1) := by decide +kernel
theorem dX8_init_23 : decode cX8_init 23 = .ok (.iconst (-1), 1) := by decide +kernel
theorem dX8_init_24 : decode cX8_init 24 = .ok (.iastore, 1) := by decide +kernel
theorem dX8_init_25 : decode cX8_init 25 = .ok (.dup, 1) := by decide +kernel
theorem dX8_init_26 : decode cX8_init 26 = .ok (.iconst 4, 1) := by decide +kernel
theorem dX8_init_27 : decode cX8_init 27 = .ok (.iconst (-1), 1) := by decide +kernel
theorem dX8_init_28 : decode cX8_init 28 = .ok (.iastore, 1) := by decide +kernel
theorem dX8_init_29 : decode cX8_init 29 = .ok (.dup, 1) := by decide +kernel
theorem dX8_init_30 : decode cX8_init 30 = .ok (.iconst 5, 1) := by decide +kernel
theorem dX8_init_31 : decode cX8_init 31 = .ok (.iconst (-1), 1) := by decide +kernel
theorem dX8_init_32 : decode cX8_init 32 = .ok (.iastore, 1) := by decide +kernel
theorem dX8_init_33 : decode cX8_init 33 = .ok (.dup, 1) := by decide +kernel
theorem dX8_init_34 : decode cX8_init 34 = .ok (.bipush 6, 2) := by decide +kernel
theorem dX8_init_36 : decode cX8_init 36 = .ok (.iconst (-1), 1) := by decide +kernel
theorem dX8_init_37 : decode cX8_init 37 = .ok (.iastore, 1) := by decide +kernel
theorem dX8_init_38 : decode cX8_init 38 = .ok (.dup, 1) := by decide +kernel
theorem dX8_init_39 : decode cX8_init 39 = .ok (.bipush 7, 2) := by decide +kernel
theorem dX8_init_41 : decode cX8_init 41 = .ok (.iconst (-1), 1) := by decide +kernel
theorem dX8_init_42 : decode cX8_init 42 = .ok (.iastore, 1) := by decide +kernel
theorem dX8_init_43 : decode cX8_init 43 = .ok (.putfield 7, 3) := by decide +kernel
theorem dX8_init_46 : decode cX8_init 46 = .ok (.aload_n 0, 1) := by decide +kernel
theorem dX8_init_47 : decode cX8_init 47 = .ok (.bipush 8, 2) := by decide +kernel
theorem dX8_init_49 : decode cX8_init 49 = .ok (.newarray .int, 2) := by decide +kernel
theorem dX8_init_51 : decode cX8_init 51 = .ok (.putfield 13, 3) := by decide +kernel
theorem dX8_init_54 : decode cX8_init 54 = .ok (.aload_n 0, 1) := by decide +kernel
theorem dX8_init_55 : decode cX8_init 55 = .ok (.sipush 320, 3) := by decide +kernel
theorem dX8_init_58 : decode cX8_init 58 = .ok (.newarray .int, 2) := by decide +kernel
theorem dX8_init_60 : decode cX8_init 60 = .ok (.putfield 16, 3) := by decide +kernel
theorem dX8_init_63 : decode cX8_init 63 = .ok (.aload_n 0, 1) := by decide +kernel
theorem dX8_init_64 : decode cX8_init 64 = .ok (.bipush 53, 2) := by decide +kernel
theorem dX8_init_66 : decode cX8_init 66 = .ok (.newarray .int, 2) := by decide +kernel
theorem dX8_init_68 : decode cX8_init 68 = .ok (.putfield 19, 3) := by decide +kernel
theorem dX8_init_71 : decode cX8_init 71 = .ok (.aload_n 0, 1) := by decide +kernel
theorem dX8_init_72 : decode cX8_init 72 = .ok (.bipush 53, 2) := by decide +kernel
theorem dX8_init_74 : decode cX8_init 74 = .ok (.newarray .int, 2) := by decide +kernel
theorem dX8_init_76 : decode cX8_init 76 = .ok (.putfield 22, 3) := by decide +kernel
theorem dX8_init_79 : decode cX8_init 79 = .ok (.aload_n 0, 1) := by decide +kernel
theorem dX8_init_80 : decode cX8_init 80 = .ok (.bipush 53, 2) := by decide +kernel
theorem dX8_init_82 : decode cX8_init 82 = .ok (.newarray .int, 2) := by decide +kernel
theorem dX8_init_84 : decode cX8_init 84 = .ok (.putfield 25, 3) := by decide +kernel
theorem dX8_init_87 : decode cX8_init 87 = .ok (.aload_n 0, 1) := by decide +kernel
theorem dX8_init_88 : decode cX8_init 88 = .ok (.bipush 6, 2) := by decide +kernel
theorem dX8_init_90 : decode cX8_init 90 = .ok (.newarray .int, 2) := by decide +kernel
theorem dX8_init_92 : decode cX8_init 92 = .ok (.putfield 28, 3) := by decide +kernel
theorem dX8_init_95 : decode cX8_init 95 = .ok (.aload_n 0, 1) := by decide +kernel
theorem dX8_init_96 : decode cX8_init 96 = .ok (.sipush 1272, 3) := by decide +kernel
theorem dX8_init_99 : decode cX8_init 99 = .ok (.newarray .int, 2) := by decide +kernel
theorem dX8_init_101 : decode cX8_init 101 = .ok (.putfield 31, 3) := by decide +kernel
theorem dX8_init_104 : decode cX8_init 104 = .ok (.aload_n 0, 1) := by decide +kernel
theorem dX8_init_105 : decode cX8_init 105 = .ok (.bipush 100, 2) := by decide +kernel
theorem dX8_init_107 : decode cX8_init 107 = .ok (.newarray .int, 2) := by decide +kernel
theorem dX8_init_109 : decode cX8_init 109 = .ok (.putfield 34, 3) := by decide +kernel
theorem dX8_init_112 : decode cX8_init 112 = .ok (.aload_n 0, 1) := by decide +kernel
theorem dX8_init_113 : decode cX8_init 113 = .ok (.iconst 4, 1) := by decide +kernel
theorem dX8_init_114 : decode cX8_init 114 = .ok (.newarray .int, 2) := by decide +kernel
theorem dX8_init_116 : decode cX8_init 116 = .ok (.dup, 1) := by decide +kernel
theorem dX8_init_117 : decode cX8_init 117 = .ok (.iconst 0, 1) := by decide +kernel
theorem dX8_init_118 : decode cX8_init 118 = .ok (.iconst 0, 1) := by decide +kernel
theorem dX8_init_119 : decode cX8_init 119 = .ok (.iastore, 1) := by decide +kernel
theorem dX8_init_120 : decode cX8_init 120 = .ok (.dup, 1) := by decide +kernel
theorem dX8_init_121 : decode cX8_init 121 = .ok (.iconst 1, 1) := by decide +kernel
theorem dX8_init_122 : decode cX8_init 122 = .ok (.iconst 5, 1) := by decide +kernel
theorem dX8_init_123 : decode cX8_init 123 = .ok (.iastore, 1) := by decide +kernel
theorem dX8_init_124 : decode cX8_init 124 = .ok (.dup, 1) := by decide +kernel
theorem dX8_init_125 : decode cX8_init 125 = .ok (.iconst 2, 1) := by decide +kernel
theorem dX8_init_126 : decode cX8_init 126 = .ok (.bipush 10, 2) := by decide +kernel
theorem dX8_init_128 : decode cX8_init 128 = .ok (.iastore, 1) := by decide +kernel
theorem dX8_init_129 : decode cX8_init 129 = .ok (.dup, 1) := by decide +kernel
theorem dX8_init_130 : decode cX8_init 130 = .ok (.iconst 3, 1) := by decide +kernel
theorem dX8_init_131 : decode cX8_init 131 = .ok (.bipush (-5), 2) := by decide +kernel
theorem dX8_init_133 : decode cX8_init 133 = .ok (.iastore, 1) := by decide +kernel
theorem dX8_init_134 : decode cX8_init 134 = .ok (.putfield 37, 3) := by decide +kernel
theorem dX8_init_137 : decode cX8_init 137 = .ok (.aload_n 0, 1) := by decide +kernel
theorem dX8_init_138 : decode cX8_init 138 = .ok (.iconst 2, 1) := by decide +kernel
theorem dX8_init_139 : decode cX8_init 139 = .ok (.newarray .boolean, 2) := by decide +kernel
theorem dX8_init_141 : decode cX8_init 141 = .ok (.putfield 40, 3) := by decide +kernel
theorem dX8_init_144 : decode cX8_init 144 = .ok (.aload_n 0, 1) := by decide +kernel
theorem dX8_init_145 : decode cX8_init 145 = .ok (.bipush 106, 2) := by decide +kernel
theorem dX8_init_147 : decode cX8_init 147 = .ok (.newarray .int, 2) := by decide +kernel
theorem dX8_init_149 : decode cX8_init 149 = .ok (.putfield 44, 3) := by decide +kernel
theorem dX8_init_152 : decode cX8_init 152 = .ok (.aload_n 0, 1) := by decide +kernel
theorem dX8_init_153 : decode cX8_init 153 = .ok (.bipush 16, 2) := by decide +kernel
theorem dX8_init_155 : decode cX8_init 155 = .ok (.newarray .int, 2) := by decide +kernel
theorem dX8_init_157 : decode cX8_init 157 = .ok (.putfield 47, 3) := by decide +kernel
theorem dX8_init_160 : decode cX8_init 160 = .ok (.return_, 1) := by decide +kernel
theorem dX8_in_0 : decode cX8_in 0 = .ok (.lload_n 0, 1) := by decide +kernel
theorem dX8_in_1 : decode cX8_in 1 = .ok (.lload_n 2, 1) := by decide +kernel
theorem dX8_in_2 : decode cX8_in 2 = .ok (.lcmp, 1) := by decide +kernel
theorem dX8_in_3 : decode cX8_in 3 = .ok (.ifCond .lt 14, 3) := by decide +kernel
theorem dX8_in_6 : decode cX8_in 6 = .ok (.lload_n 0, 1) := by decide +kernel
theorem dX8_in_7 : decode cX8_in 7 = .ok (.lload 4, 2) := by decide +kernel
theorem dX8_in_9 : decode cX8_in 9 = .ok (.lcmp, 1) := by decide +kernel
theorem dX8_in_10 : decode cX8_in 10 = .ok (.ifCond .gt 7, 3) := by decide +kernel
theorem dX8_in_13 : decode cX8_in 13 = .ok (.iconst 1, 1) := by decide +kernel
theorem dX8_in_14 : decode cX8_in 14 = .ok (.goto 4, 3) := by decide +kernel
theorem dX8_in_17 : decode cX8_in 17 = .ok (.iconst 0, 1) := by decide +kernel
theorem dX8_in_18 : decode cX8_in 18 = .ok (.ireturn, 1) := by decide +kernel
theorem dX8_finding_0 : decode cX8_finding 0 = .ok (.aload_n 0, 1) := by decide +kernel
theorem dX8_finding_1 : decode cX8_finding 1 = .ok (.iload_n 1, 1) := by decide +kernel
theorem dX8_finding_2 : decode cX8_finding 2 = .ok (.putfield 54, 3) := by decide +kernel
theorem dX8_finding_5 : decode cX8_finding 5 = .ok (.ldc 57, 2) := by decide +kernel
theorem dX8_finding_7 : decode cX8_finding 7 = .ok (.iload_n 1, 1) := by decide +kernel
theorem dX8_finding_8 : decode cX8_finding 8 = .ok (.isub, 1) := by decide +kernel
theorem dX8_finding_9 : decode cX8_finding 9 = .ok (.ireturn, 1) := by decide +kernel
theorem dX8_isRow_0 : decode cX8_isRow 0 = .ok (.iload_n 0, 1) := by decide +kernel
theorem dX8_isRow_1 : decode cX8_isRow 1 = .ok (.i2l, 1) := by decide +kernel
theorem dX8_isRow_2 : decode cX8_isRow 2 = .ok (.lconst 0, 1) := by decide +kernel
theorem dX8_isRow_3 : decode cX8_isRow 3 = .ok (.ldc2_w 58, 3) := by decide +kernel
theorem dX8_isRow_6 : decode cX8_isRow 6 = .ok (.invokestatic 60, 3) := by decide +kernel
theorem dX8_isRow_9 : decode cX8_isRow 9 = .ok (.ireturn, 1) := by decide +kernel
theorem dX8_row_0 : decode cX8_row 0 = .ok (.aload_n 0, 1) := by decide +kernel
theorem dX8_row_1 : decode cX8_row 1 = .ok (.iconst 0, 1) := by decide +kernel
theorem dX8_row_2 : decode cX8_row 2 = .ok (.putfield 50, 3) := by decide +kernel
theorem dX8_row_5 : decode cX8_row 5 = .ok (.iload_n 1, 1) := by decide +kernel
theorem dX8_row_6 : decode cX8_row 6 = .ok (.invokestatic 64, 3) := by decide +kernel
theorem dX8_row_9 : decode cX8_row 9 = .ok (.ifCond .eq 21, 3) := by decide +kernel
theorem dX8_row_12 : decode cX8_row 12 = .ok (.iload_n 2, 1) := by decide +kernel
theorem dX8_row_13 : decode cX8_row 13 = .ok (.i2l, 1) := by decide +kernel
theorem dX8_row_14 : decode cX8_row 14 = .ok (.lconst 0, 1) := by decide +kernel
theorem dX8_row_15 : decode cX8_row 15 = .ok (.ldc2_w 68, 3) := by decide +kernel
theorem dX8_row_18 : decode cX8_row 18 = .ok (.invokestatic 60, 3) := by decide +kernel
theorem dX8_row_21 : decode cX8_row 21 = .ok (.ifCond .eq 9, 3) := by decide +kernel
theorem dX8_row_24 : decode cX8_row 24 = .ok (.iload_n 3, 1) := by decide +kernel
theorem dX8_row_25 : decode cX8_row 25 = .ok (.bipush 40, 2) := by decide +kernel
theorem dX8_row_27 : decode cX8_row 27 = .ok (.if_icmp .le 6, 3) := by decide +kernel
theorem dX8_row_30 : decode cX8_row 30 = .ok (.ldc 70, 2) := by decide +kernel
theorem dX8_row_32 : decode cX8_row 32 = .ok (.ireturn, 1) := by decide +kernel
theorem dX8_row_33 : decode cX8_row 33 = .ok (.aload_n 0, 1) := by decide +kernel
theorem dX8_row_34 : decode cX8_row 34 = .ok (.iconst 0, 1) := by decide +kernel
theorem dX8_row_35 : decode cX8_row 35 = .ok (.putfield 54, 3) := by decide +kernel
theorem dX8_row_38 : decode cX8_row 38 = .ok (.iload_n 3, 1) := by decide +kernel
theorem dX8_row_39 : decode cX8_row 39 = .ok (.ifCond .ge 9, 3) := by decide +kernel
theorem dX8_row_42 : decode cX8_row 42 = .ok (.aload_n 0, 1) := by decide +kernel
theorem dX8_row_43 : decode cX8_row 43 = .ok (.iconst 4, 1) := by decide +kernel
theorem dX8_row_44 : decode cX8_row 44 = .ok (.invokevirtual 71, 3) := by decide +kernel
theorem dX8_row_47 : decode cX8_row 47 = .ok (.ireturn, 1) := by decide +kernel
theorem dX8_row_48 : decode cX8_row 48 = .ok (.aload_n 0, 1) := by decide +kernel
theorem dX8_row_49 : decode cX8_row 49 = .ok (.getfield 7, 3) := by decide +kernel
theorem dX8_row_52 : decode cX8_row 52 = .ok (.iload_n 1, 1) := by decide +kernel
theorem dX8_row_53 : decode cX8_row 53 = .ok (.iload_n 2, 1) := by decide +kernel
theorem dX8_row_54 : decode cX8_row 54 = .ok (.iastore, 1) := by decide +kernel
theorem dX8_row_55 : decode cX8_row 55 = .ok (.aload_n 0, 1) := by decide +kernel
theorem dX8_row_56 : decode cX8_row 56 = .ok (.getfield 13, 3) := by decide +kernel
theorem dX8_row_59 : decode cX8_row 59 = .ok (.iload_n 1, 1) := by decide +kernel
theorem dX8_row_60 : decode cX8_row 60 = .ok (.iload_n 3, 1) := by decide +kernel
theorem dX8_row_61 : decode cX8_row 61 = .ok (.iastore, 1) := by decide +kernel
theorem dX8_row_62 : decode cX8_row 62 = .ok (.iconst 0, 1) := by decide +kernel
theorem dX8_row_63 : decode cX8_row 63 = .ok (.istore 4, 2) := by decide +kernel
theorem dX8_row_65 : decode cX8_row 65 = .ok (.iload 4, 2) := by decide +kernel
theorem dX8_row_67 : decode cX8_row 67 = .ok (.bipush 40, 2) := by decide +kernel
theorem dX8_row_69 : decode cX8_row 69 = .ok (.if_icmp .ge 22, 3) := by decide +kernel
theorem dX8_row_72 : decode cX8_row 72 = .ok (.aload_n 0, 1) := by decide +kernel
theorem dX8_row_73 : decode cX8_row 73 = .ok (.getfield 16, 3) := by decide +kernel
theorem dX8_row_76 : decode cX8_row 76 = .ok (.bipush 40, 2) := by decide +kernel
theorem dX8_row_78 : decode cX8_row 78 = .ok (.iload_n 1, 1) := by decide +kernel
theorem dX8_row_79 : decode cX8_row 79 = .ok (.imul, 1) := by decide +kernel
theorem dX8_row_80 : decode cX8_row 80 = .ok (.iload 4, 2) := by decide +kernel
theorem dX8_row_82 : decode cX8_row 82 = .ok (.iadd, 1) := by decide +kernel
theorem dX8_row_83 : decode cX8_row 83 = .ok (.iconst 0, 1) := by decide +kernel
theorem dX8_row_84 : decode cX8_row 84 = .ok (.iastore, 1) := by decide +kernel
theorem dX8_row_85 : decode cX8_row 85 = .ok (.iinc 4 1, 3) := by decide +kernel
theorem dX8_row_88 : decode cX8_row 88 = .ok (.goto (-23), 3) := by decide +kernel
theorem dX8_row_91 : decode cX8_row 91 = .ok (.iload_n 3, 1) := by decide +kernel
theorem dX8_row_92 : decode cX8_row 92 = .ok (.ireturn, 1) := by decide +kernel
theorem dX8_set_0 : decode cX8_set 0 = .ok (.aload_n 0, 1) := by decide +kernel
theorem dX8_set_1 : decode cX8_set 1 = .ok (.iconst 0, 1) := by decide +kernel
theorem dX8_set_2 : decode cX8_set 2 = .ok (.putfield 50, 3) := by decide +kernel
theorem dX8_set_5 : decode cX8_set 5 = .ok (.iload_n 1, 1) := by decide +kernel
theorem dX8_set_6 : decode cX8_set 6 = .ok (.invokestatic 64, 3) := by decide +kernel
theorem dX8_set_9 : decode cX8_set 9 = .ok (.ifCond .ne 6, 3) := by decide +kernel
theorem dX8_set_12 : decode cX8_set 12 = .ok (.ldc 70, 2) := by decide +kernel
theorem dX8_set_14 : decode cX8_set 14 = .ok (.ireturn, 1) := by decide +kernel
theorem dX8_set_15 : decode cX8_set 15 = .ok (.aload_n 0, 1) := by decide +kernel
theorem dX8_set_16 : decode cX8_set 16 = .ok (.iconst 0, 1) := by decide +kernel
theorem dX8_set_17 : decode cX8_set 17 = .ok (.putfield 54, 3) := by decide +kernel
theorem dX8_set_20 : decode cX8_set 20 = .ok (.aload_n 0, 1) := by decide +kernel
theorem dX8_set_21 : decode cX8_set 21 = .ok (.getfield 7, 3) := by decide +kernel
theorem dX8_set_24 : decode cX8_set 24 = .ok (.iload_n 1, 1) := by decide +kernel
theorem dX8_set_25 : decode cX8_set 25 = .ok (.iaload, 1) := by decide +kernel
theorem dX8_set_26 : decode cX8_set 26 = .ok (.ifCond .ge 9, 3) := by decide +kernel
theorem dX8_set_29 : decode cX8_set 29 = .ok (.aload_n 0, 1) := by decide +kernel
theorem dX8_set_30 : decode cX8_set 30 = .ok (.iconst 1, 1) := by decide +kernel
theorem dX8_set_31 : decode cX8_set 31 = .ok (.invokevirtual 71, 3) := by decide +kernel
theorem dX8_set_34 : decode cX8_set 34 = .ok (.ireturn, 1) := by decide +kernel
theorem dX8_set_35 : decode cX8_set 35 = .ok (.iload_n 2, 1) := by decide +kernel
theorem dX8_set_36 : decode cX8_set 36 = .ok (.i2l, 1) := by decide +kernel
theorem dX8_set_37 : decode cX8_set 37 = .ok (.lconst 0, 1) := by decide +kernel
theorem dX8_set_38 : decode cX8_set 38 = .ok (.aload_n 0, 1) := by decide +kernel
theorem dX8_set_39 : decode cX8_set 39 = .ok (.getfield 13, 3) := by decide +kernel
theorem dX8_set_42 : decode cX8_set 42 = .ok (.iload_n 1, 1) := by decide +kernel
theorem dX8_set_43 : decode cX8_set 43 = .ok (.iaload, 1) := by decide +kernel
theorem dX8_set_44 : decode cX8_set 44 = .ok (.iconst 1, 1) := by decide +kernel
theorem dX8_set_45 : decode cX8_set 45 = .ok (.isub, 1) := by decide +kernel
theorem dX8_set_46 : decode cX8_set 46 = .ok (.i2l, 1) := by decide +kernel
theorem dX8_set_47 : decode cX8_set 47 = .ok (.invokestatic 60, 3) := by decide +kernel
theorem dX8_set_50 : decode cX8_set 50 = .ok (.ifCond .ne 9, 3) := by decide +kernel
theorem dX8_set_53 : decode cX8_set 53 = .ok (.aload_n 0, 1) := by decide +kernel
theorem dX8_set_54 : decode cX8_set 54 = .ok (.iconst 2, 1) := by decide +kernel
theorem dX8_set_55 : decode cX8_set 55 = .ok (.invokevirtual 71, 3) := by decide +kernel
theorem dX8_set_58 : decode cX8_set 58 = .ok (.ireturn, 1) := by decide +kernel
theorem dX8_set_59 : decode cX8_set 59 = .ok (.aload_n 0, 1) := by decide +kernel
theorem dX8_set_60 : decode cX8_set 60 = .ok (.getfield 16, 3) := by decide +kernel
theorem dX8_set_63 : decode cX8_set 63 = .ok (.bipush 40, 2) := by decide +kernel
theorem dX8_set_65 : decode cX8_set 65 = .ok (.iload_n 1, 1) := by decide +kernel
theorem dX8_set_66 : decode cX8_set 66 = .ok (.imul, 1) := by decide +kernel
theorem dX8_set_67 : decode cX8_set 67 = .ok (.iload_n 2, 1) := by decide +kernel
theorem dX8_set_68 : decode cX8_set 68 = .ok (.iadd, 1) := by decide +kernel
theorem dX8_set_69 : decode cX8_set 69 = .ok (.aload_n 0, 1) := by decide +kernel
theorem dX8_set_70 : decode cX8_set 70 = .ok (.getfield 7, 3) := by decide +kernel
theorem dX8_set_73 : decode cX8_set 73 = .ok (.iload_n 1, 1) := by decide +kernel
theorem dX8_set_74 : decode cX8_set 74 = .ok (.iaload, 1) := by decide +kernel
theorem dX8_set_75 : decode cX8_set 75 = .ok (.ifCond .ne 8, 3) := by decide +kernel
theorem dX8_set_78 : decode cX8_set 78 = .ok (.iload_n 3, 1) := by decide +kernel
theorem dX8_set_79 : decode cX8_set 79 = .ok (.i2b, 1) := by decide +kernel
theorem dX8_set_80 : decode cX8_set 80 = .ok (.goto 19, 3) := by decide +kernel
theorem dX8_set_83 : decode cX8_set 83 = .ok (.aload_n 0, 1) := by decide +kernel
theorem dX8_set_84 : decode cX8_set 84 = .ok (.getfield 7, 3) := by decide +kernel
theorem dX8_set_87 : decode cX8_set 87 = .ok (.iload_n 1, 1) := by decide +kernel
theorem dX8_set_88 : decode cX8_set 88 = .ok (.iaload, 1) := by decide +kernel
theorem dX8_set_89 : decode cX8_set 89 = .ok (.iconst 1, 1) := by decide +kernel
theorem dX8_set_90 : decode cX8_set 90 = .ok (.if_icmp .ne 8, 3) := by decide +kernel
theorem dX8_set_93 : decode cX8_set 93 = .ok (.iload_n 3, 1) := by decide +kernel
theorem dX8_set_94 : decode cX8_set 94 = .ok (.i2s, 1) := by decide +kernel
theorem dX8_set_95 : decode cX8_set 95 = .ok (.goto 4, 3) := by decide +kernel
theorem dX8_set_98 : decode cX8_set 98 = .ok (.iload_n 3, 1) := by decide +kernel
theorem dX8_set_99 : decode cX8_set 99 = .ok (.iastore, 1) := by decide +kernel
theorem dX8_set_100 : decode cX8_set 100 = .ok (.aload_n 0, 1) := by decide +kernel
theorem dX8_set_101 : decode cX8_set 101 = .ok (.getfield 16, 3) := by decide +kernel
theorem dX8_set_104 : decode cX8_set 104 = .ok (.bipush 40, 2) := by decide +kernel
theorem dX8_set_106 : decode cX8_set 106 = .ok (.iload_n 1, 1) := by decide +kernel
theorem dX8_set_107 : decode cX8_set 107 = .ok (.imul, 1) := by decide +kernel
theorem dX8_set_108 : decode cX8_set 108 = .ok (.iload_n 2, 1) := by decide +kernel
theorem dX8_set_109 : decode cX8_set 109 = .ok (.iadd, 1) := by decide +kernel
theorem dX8_set_110 : decode cX8_set 110 = .ok (.iaload, 1) := by decide +kernel
theorem dX8_set_111 : decode cX8_set 111 = .ok (.ireturn, 1) := by decide +kernel
theorem dX8_copy_0 : decode cX8_copy 0 = .ok (.aload_n 0, 1) := by decide +kernel
theorem dX8_copy_1 : decode cX8_copy 1 = .ok (.iconst 0, 1) := by decide +kernel
theorem dX8_copy_2 : decode cX8_copy 2 = .ok (.putfield 50, 3) := by decide +kernel
theorem dX8_copy_5 : decode cX8_copy 5 = .ok (.iload_n 1, 1) := by decide +kernel
theorem dX8_copy_6 : decode cX8_copy 6 = .ok (.invokestatic 64, 3) := by decide +kernel
theorem dX8_copy_9 : decode cX8_copy 9 = .ok (.ifCond .eq 10, 3) := by decide +kernel
theorem dX8_copy_12 : decode cX8_copy 12 = .ok (.iload_n 3, 1) := by decide +kernel
theorem dX8_copy_13 : decode cX8_copy 13 = .ok (.invokestatic 64, 3) := by decide +kernel
theorem dX8_copy_16 : decode cX8_copy 16 = .ok (.ifCond .ne 6, 3) := by decide +kernel
theorem dX8_copy_19 : decode cX8_copy 19 = .ok (.ldc 70, 2) := by decide +kernel
theorem dX8_copy_21 : decode cX8_copy 21 = .ok (.ireturn, 1) := by decide +kernel
theorem dX8_copy_22 : decode cX8_copy 22 = .ok (.aload_n 0, 1) := by decide +kernel
theorem dX8_copy_23 : decode cX8_copy 23 = .ok (.iconst 0, 1) := by decide +kernel
theorem dX8_copy_24 : decode cX8_copy 24 = .ok (.putfield 54, 3) := by decide +kernel
theorem dX8_copy_27 : decode cX8_copy 27 = .ok (.aload_n 0, 1) := by decide +kernel
theorem dX8_copy_28 : decode cX8_copy 28 = .ok (.getfield 7, 3) := by decide +kernel
theorem dX8_copy_31 : decode cX8_copy 31 = .ok (.iload_n 1, 1) := by decide +kernel
theorem dX8_copy_32 : decode cX8_copy 32 = .ok (.iaload, 1) := by decide +kernel
theorem dX8_copy_33 : decode cX8_copy 33 = .ok (.ifCond .lt 12, 3) := by decide +kernel
theorem dX8_copy_36 : decode cX8_copy 36 = .ok (.aload_n 0, 1) := by decide +kernel
theorem dX8_copy_37 : decode cX8_copy 37 = .ok (.getfield 7, 3) := by decide +kernel
theorem dX8_copy_40 : decode cX8_copy 40 = .ok (.iload_n 3, 1) := by decide +kernel
theorem dX8_copy_41 : decode cX8_copy 41 = .ok (.iaload, 1) := by decide +kernel
theorem dX8_copy_42 : decode cX8_copy 42 = .ok (.ifCond .ge 9, 3) := by decide +kernel
theorem dX8_copy_45 : decode cX8_copy 45 = .ok (.aload_n 0, 1) := by decide +kernel
theorem dX8_copy_46 : decode cX8_copy 46 = .ok (.iconst 1, 1) := by decide +kernel
theorem dX8_copy_47 : decode cX8_copy 47 = .ok (.invokevirtual 71, 3) := by decide +kernel
theorem dX8_copy_50 : decode cX8_copy 50 = .ok (.ireturn, 1) := by decide +kernel
theorem dX8_copy_51 : decode cX8_copy 51 = .ok (.aload_n 0, 1) := by decide +kernel
theorem dX8_copy_52 : decode cX8_copy 52 = .ok (.getfield 7, 3) := by decide +kernel
theorem dX8_copy_55 : decode cX8_copy 55 = .ok (.iload_n 1, 1) := by decide +kernel
theorem dX8_copy_56 : decode cX8_copy 56 = .ok (.iaload, 1) := by decide +kernel
theorem dX8_copy_57 : decode cX8_copy 57 = .ok (.aload_n 0, 1) := by decide +kernel
theorem dX8_copy_58 : decode cX8_copy 58 = .ok (.getfield 7, 3) := by decide +kernel
theorem dX8_copy_61 : decode cX8_copy 61 = .ok (.iload_n 3, 1) := by decide +kernel
theorem dX8_copy_62 : decode cX8_copy 62 = .ok (.iaload, 1) := by decide +kernel
theorem dX8_copy_63 : decode cX8_copy 63 = .ok (.if_icmp .eq 9, 3) := by decide +kernel
theorem dX8_copy_66 : decode cX8_copy 66 = .ok (.aload_n 0, 1) := by decide +kernel
theorem dX8_copy_67 : decode cX8_copy 67 = .ok (.iconst 5, 1) := by decide +kernel
theorem dX8_copy_68 : decode cX8_copy 68 = .ok (.invokevirtual 71, 3) := by decide +kernel
theorem dX8_copy_71 : decode cX8_copy 71 = .ok (.ireturn, 1) := by decide +kernel
theorem dX8_copy_72 : decode cX8_copy 72 = .ok (.iload_n 2, 1) := by decide +kernel
theorem dX8_copy_73 : decode cX8_copy 73 = .ok (.ifCond .lt 48, 3) := by decide +kernel
theorem dX8_copy_76 : decode cX8_copy 76 = .ok (.iload 4, 2) := by decide +kernel
theorem dX8_copy_78 : decode cX8_copy 78 = .ok (.ifCond .lt 43, 3) := by decide +kernel
theorem dX8_copy_81 : decode cX8_copy 81 = .ok (.iload 5, 2) := by decide +kernel
theorem dX8_copy_83 : decode cX8_copy 83 = .ok (.ifCond .lt 38, 3) := by decide +kernel
theorem dX8_copy_86 : decode cX8_copy 86 = .ok (.iload_n 2, 1) := by decide +kernel
theorem dX8_copy_87 : decode cX8_copy 87 = .ok (.i2l, 1) := by decide +kernel
theorem dX8_copy_88 : decode cX8_copy 88 = .ok (.iload 5, 2) := by decide +kernel
theorem dX8_copy_90 : decode cX8_copy 90 = .ok (.i2l, 1) := by decide +kernel
theorem dX8_copy_91 : decode cX8_copy 91 = .ok (.ladd, 1) := by decide +kernel
theorem dX8_copy_92 : decode cX8_copy 92 = .ok (.aload_n 0, 1) := by decide +kernel
theorem dX8_copy_93 : decode cX8_copy 93 = .ok (.getfield 13, 3) := by decide +kernel
theorem dX8_copy_96 : decode cX8_copy 96 = .ok (.iload_n 1, 1) := by decide +kernel
theorem dX8_copy_97 : decode cX8_copy 97 = .ok (.iaload, 1) := by decide +kernel
theorem dX8_copy_98 : decode cX8_copy 98 = .ok (.i2l, 1) := by decide +kernel
theorem dX8_copy_99 : decode cX8_copy 99 = .ok (.lcmp, 1) := by decide +kernel
theorem dX8_copy_100 : decode cX8_copy 100 = .ok (.ifCond .gt 21, 3) := by decide +kernel
theorem dX8_copy_103 : decode cX8_copy 103 = .ok (.iload 4, 2) := by decide +kernel
theorem dX8_copy_105 : decode cX8_copy 105 = .ok (.i2l, 1) := by decide +kernel
theorem dX8_copy_106 : decode cX8_copy 106 = .ok (.iload 5, 2) := by decide +kernel
theorem dX8_copy_108 : decode cX8_copy 108 = .ok (.i2l, 1) := by decide +kernel
theorem dX8_copy_109 : decode cX8_copy 109 = .ok (.ladd, 1) := by decide +kernel
theorem dX8_copy_110 : decode cX8_copy 110 = .ok (.aload_n 0, 1) := by decide +kernel
theorem dX8_copy_111 : decode cX8_copy 111 = .ok (.getfield 13, 3) := by decide +kernel
theorem dX8_copy_114 : decode cX8_copy 114 = .ok (.iload_n 3, 1) := by decide +kernel
theorem dX8_copy_115 : decode cX8_copy 115 = .ok (.iaload, 1) := by decide +kernel
theorem dX8_copy_116 : decode cX8_copy 116 = .ok (.i2l, 1) := by decide +kernel
theorem dX8_copy_117 : decode cX8_copy 117 = .ok (.lcmp, 1) := by decide +kernel
theorem dX8_copy_118 : decode cX8_copy 118 = .ok (.ifCond .le 9, 3) := by decide +kernel
theorem dX8_copy_121 : decode cX8_copy 121 = .ok (.aload_n 0, 1) := by decide +kernel
theorem dX8_copy_122 : decode cX8_copy 122 = .ok (.iconst 2, 1) := by decide +kernel
theorem dX8_copy_123 : decode cX8_copy 123 = .ok (.invokevirtual 71, 3) := by decide +kernel
theorem dX8_copy_126 : decode cX8_copy 126 = .ok (.ireturn, 1) := by decide +kernel
theorem dX8_copy_127 : decode cX8_copy 127 = .ok (.iload_n 2, 1) := by decide +kernel
theorem dX8_copy_128 : decode cX8_copy 128 = .ok (.iload 4, 2) := by decide +kernel
theorem dX8_copy_130 : decode cX8_copy 130 = .ok (.if_icmp .lt 7, 3) := by decide +kernel
theorem dX8_copy_133 : decode cX8_copy 133 = .ok (.iconst 1, 1) := by decide +kernel
theorem dX8_copy_134 : decode cX8_copy 134 = .ok (.goto 4, 3) := by decide +kernel
theorem dX8_copy_137 : decode cX8_copy 137 = .ok (.iconst 0, 1) := by decide +kernel
theorem dX8_copy_138 : decode cX8_copy 138 = .ok (.istore 6, 2) := by decide +kernel
theorem dX8_copy_140 : decode cX8_copy 140 = .ok (.iconst 0, 1) := by decide +kernel
theorem dX8_copy_141 : decode cX8_copy 141 = .ok (.istore 7, 2) := by decide +kernel
theorem dX8_copy_143 : decode cX8_copy 143 = .ok (.iload 7, 2) := by decide +kernel
theorem dX8_copy_145 : decode cX8_copy 145 = .ok (.iload 5, 2) := by decide +kernel
theorem dX8_copy_147 : decode cX8_copy 147 = .ok (.if_icmp .ge 57, 3) := by decide +kernel
theorem dX8_copy_150 : decode cX8_copy 150 = .ok (.iload 6, 2) := by decide +kernel
theorem dX8_copy_152 : decode cX8_copy 152 = .ok (.ifCond .eq 8, 3) := by decide +kernel
theorem dX8_copy_155 : decode cX8_copy 155 = .ok (.iload 7, 2) := by decide +kernel
theorem dX8_copy_157 : decode cX8_copy 157 = .ok (.goto 10, 3) := by decide +kernel
theorem dX8_copy_160 : decode cX8_copy 160 = .ok (.iload 5, 2) := by decide +kernel
theorem dX8_copy_162 : decode cX8_copy 162 = .ok (.iconst 1, 1) := by decide +kernel
theorem dX8_copy_163 : decode cX8_copy 163 = .ok (.isub, 1) := by decide +kernel
theorem dX8_copy_164 : decode cX8_copy 164 = .ok (.iload 7, 2) := by decide +kernel
theorem dX8_copy_166 : decode cX8_copy 166 = .ok (.isub, 1) := by decide +kernel
theorem dX8_copy_167 : decode cX8_copy 167 = .ok (.istore 8, 2) := by decide +kernel
theorem dX8_copy_169 : decode cX8_copy 169 = .ok (.aload_n 0, 1) := by decide +kernel
theorem dX8_copy_170 : decode cX8_copy 170 = .ok (.getfield 16, 3) := by decide +kernel
theorem dX8_copy_173 : decode cX8_copy 173 = .ok (.bipush 40, 2) := by decide +kernel
theorem dX8_copy_175 : decode cX8_copy 175 = .ok (.iload_n 3, 1) := by decide +kernel
theorem dX8_copy_176 : decode cX8_copy 176 = .ok (.imul, 1) := by decide +kernel
theorem dX8_copy_177 : decode cX8_copy 177 = .ok (.iload 4, 2) := by decide +kernel
theorem dX8_copy_179 : decode cX8_copy 179 = .ok (.iadd, 1) := by decide +kernel
theorem dX8_copy_180 : decode cX8_copy 180 = .ok (.iload 8, 2) := by decide +kernel
theorem dX8_copy_182 : decode cX8_copy 182 = .ok (.iadd, 1) := by decide +kernel
theorem dX8_copy_183 : decode cX8_copy 183 = .ok (.aload_n 0, 1) := by decide +kernel
theorem dX8_copy_184 : decode cX8_copy 184 = .ok (.getfield 16, 3) := by decide +kernel
theorem dX8_copy_187 : decode cX8_copy 187 = .ok (.bipush 40, 2) := by decide +kernel
theorem dX8_copy_189 : decode cX8_copy 189 = .ok (.iload_n 1, 1) := by decide +kernel
theorem dX8_copy_190 : decode cX8_copy 190 = .ok (.imul, 1) := by decide +kernel
theorem dX8_copy_191 : decode cX8_copy 191 = .ok (.iload_n 2, 1) := by decide +kernel
theorem dX8_copy_192 : decode cX8_copy 192 = .ok (.iadd, 1) := by decide +kernel
theorem dX8_copy_193 : decode cX8_copy 193 = .ok (.iload 8, 2) := by decide +kernel
theorem dX8_copy_195 : decode cX8_copy 195 = .ok (.iadd, 1) := by decide +kernel
theorem dX8_copy_196 : decode cX8_copy 196 = .ok (.iaload, 1) := by decide +kernel
theorem dX8_copy_197 : decode cX8_copy 197 = .ok (.iastore, 1) := by decide +kernel
theorem dX8_copy_198 : decode cX8_copy 198 = .ok (.iinc 7 1, 3) := by decide +kernel
theorem dX8_copy_201 : decode cX8_copy 201 = .ok (.goto (-58), 3) := by decide +kernel
theorem dX8_copy_204 : decode cX8_copy 204 = .ok (.iload 5, 2) := by decide +kernel
theorem dX8_copy_206 : decode cX8_copy 206 = .ok (.ireturn, 1) := by decide +kernel
theorem dX8_drop_0 : decode cX8_drop 0 = .ok (.aload_n 0, 1) := by decide +kernel
theorem dX8_drop_1 : decode cX8_drop 1 = .ok (.iconst 0, 1) := by decide +kernel
theorem dX8_drop_2 : decode cX8_drop 2 = .ok (.putfield 50, 3) := by decide +kernel
theorem dX8_drop_5 : decode cX8_drop 5 = .ok (.iload_n 1, 1) := by decide +kernel
theorem dX8_drop_6 : decode cX8_drop 6 = .ok (.invokestatic 64, 3) := by decide +kernel
theorem dX8_drop_9 : decode cX8_drop 9 = .ok (.ifCond .ne 6, 3) := by decide +kernel
theorem dX8_drop_12 : decode cX8_drop 12 = .ok (.ldc 70, 2) := by decide +kernel
theorem dX8_drop_14 : decode cX8_drop 14 = .ok (.ireturn, 1) := by decide +kernel
theorem dX8_drop_15 : decode cX8_drop 15 = .ok (.aload_n 0, 1) := by decide +kernel
theorem dX8_drop_16 : decode cX8_drop 16 = .ok (.iconst 0, 1) := by decide +kernel
theorem dX8_drop_17 : decode cX8_drop 17 = .ok (.putfield 54, 3) := by decide +kernel
theorem dX8_drop_20 : decode cX8_drop 20 = .ok (.aload_n 0, 1) := by decide +kernel
theorem dX8_drop_21 : decode cX8_drop 21 = .ok (.getfield 7, 3) := by decide +kernel
theorem dX8_drop_24 : decode cX8_drop 24 = .ok (.iload_n 1, 1) := by decide +kernel
theorem dX8_drop_25 : decode cX8_drop 25 = .ok (.iaload, 1) := by decide +kernel
theorem dX8_drop_26 : decode cX8_drop 26 = .ok (.ifCond .ge 9, 3) := by decide +kernel
theorem dX8_drop_29 : decode cX8_drop 29 = .ok (.aload_n 0, 1) := by decide +kernel
theorem dX8_drop_30 : decode cX8_drop 30 = .ok (.iconst 1, 1) := by decide +kernel
theorem dX8_drop_31 : decode cX8_drop 31 = .ok (.invokevirtual 71, 3) := by decide +kernel
theorem dX8_drop_34 : decode cX8_drop 34 = .ok (.ireturn, 1) := by decide +kernel
theorem dX8_drop_35 : decode cX8_drop 35 = .ok (.aload_n 0, 1) := by decide +kernel
theorem dX8_drop_36 : decode cX8_drop 36 = .ok (.getfield 7, 3) := by decide +kernel
theorem dX8_drop_39 : decode cX8_drop 39 = .ok (.iload_n 1, 1) := by decide +kernel
theorem dX8_drop_40 : decode cX8_drop 40 = .ok (.iconst (-1), 1) := by decide +kernel
theorem dX8_drop_41 : decode cX8_drop 41 = .ok (.iastore, 1) := by decide +kernel
theorem dX8_drop_42 : decode cX8_drop 42 = .ok (.aload_n 0, 1) := by decide +kernel
theorem dX8_drop_43 : decode cX8_drop 43 = .ok (.getfield 13, 3) := by decide +kernel
theorem dX8_drop_46 : decode cX8_drop 46 = .ok (.iload_n 1, 1) := by decide +kernel
theorem dX8_drop_47 : decode cX8_drop 47 = .ok (.iaload, 1) := by decide +kernel
theorem dX8_drop_48 : decode cX8_drop 48 = .ok (.ireturn, 1) := by decide +kernel
theorem dX8_feed_0 : decode cX8_feed 0 = .ok (.aload_n 0, 1) := by decide +kernel
theorem dX8_feed_1 : decode cX8_feed 1 = .ok (.iconst 0, 1) := by decide +kernel
theorem dX8_feed_2 : decode cX8_feed 2 = .ok (.putfield 50, 3) := by decide +kernel
theorem dX8_feed_5 : decode cX8_feed 5 = .ok (.iload_n 1, 1) := by decide +kernel
theorem dX8_feed_6 : decode cX8_feed 6 = .ok (.i2l, 1) := by decide +kernel
theorem dX8_feed_7 : decode cX8_feed 7 = .ok (.lconst 0, 1) := by decide +kernel
theorem dX8_feed_8 : decode cX8_feed 8 = .ok (.ldc2_w 75, 3) := by decide +kernel
theorem dX8_feed_11 : decode cX8_feed 11 = .ok (.invokestatic 60, 3) := by decide +kernel
theorem dX8_feed_14 : decode cX8_feed 14 = .ok (.ifCond .ne 6, 3) := by decide +kernel
theorem dX8_feed_17 : decode cX8_feed 17 = .ok (.ldc 70, 2) := by decide +kernel
theorem dX8_feed_19 : decode cX8_feed 19 = .ok (.ireturn, 1) := by decide +kernel
theorem dX8_feed_20 : decode cX8_feed 20 = .ok (.aload_n 0, 1) := by decide +kernel
theorem dX8_feed_21 : decode cX8_feed 21 = .ok (.getfield 77, 3) := by decide +kernel
theorem dX8_feed_24 : decode cX8_feed 24 = .ok (.bipush 100, 2) := by decide +kernel
theorem dX8_feed_26 : decode cX8_feed 26 = .ok (.if_icmp .ne 6, 3) := by decide +kernel
theorem dX8_feed_29 : decode cX8_feed 29 = .ok (.ldc 80, 2) := by decide +kernel
theorem dX8_feed_31 : decode cX8_feed 31 = .ok (.ireturn, 1) := by decide +kernel
theorem dX8_feed_32 : decode cX8_feed 32 = .ok (.aload_n 0, 1) := by decide +kernel
theorem dX8_feed_33 : decode cX8_feed 33 = .ok (.getfield 34, 3) := by decide +kernel
theorem dX8_feed_36 : decode cX8_feed 36 = .ok (.aload_n 0, 1) := by decide +kernel
theorem dX8_feed_37 : decode cX8_feed 37 = .ok (.getfield 77, 3) := by decide +kernel
theorem dX8_feed_40 : decode cX8_feed 40 = .ok (.iload_n 1, 1) := by decide +kernel
theorem dX8_feed_41 : decode cX8_feed 41 = .ok (.iastore, 1) := by decide +kernel
theorem dX8_feed_42 : decode cX8_feed 42 = .ok (.aload_n 0, 1) := by decide +kernel
theorem dX8_feed_43 : decode cX8_feed 43 = .ok (.dup, 1) := by decide +kernel
theorem dX8_feed_44 : decode cX8_feed 44 = .ok (.getfield 77, 3) := by decide +kernel
theorem dX8_feed_47 : decode cX8_feed 47 = .ok (.iconst 1, 1) := by decide +kernel
theorem dX8_feed_48 : decode cX8_feed 48 = .ok (.iadd, 1) := by decide +kernel
theorem dX8_feed_49 : decode cX8_feed 49 = .ok (.putfield 77, 3) := by decide +kernel
theorem dX8_feed_52 : decode cX8_feed 52 = .ok (.aload_n 0, 1) := by decide +kernel
theorem dX8_feed_53 : decode cX8_feed 53 = .ok (.getfield 77, 3) := by decide +kernel
theorem dX8_feed_56 : decode cX8_feed 56 = .ok (.ireturn, 1) := by decide +kernel
theorem dX8_bad_0 : decode cX8_bad 0 = .ok (.aload_n 0, 1) := by decide +kernel
theorem dX8_bad_1 : decode cX8_bad 1 = .ok (.getfield 81, 3) := by decide +kernel
theorem dX8_bad_4 : decode cX8_bad 4 = .ok (.ifCond .ne 16, 3) := by decide +kernel
theorem dX8_bad_7 : decode cX8_bad 7 = .ok (.aload_n 0, 1) := by decide +kernel
theorem dX8_bad_8 : decode cX8_bad 8 = .ok (.iload_n 1, 1) := by decide +kernel
theorem dX8_bad_9 : decode cX8_bad 9 = .ok (.putfield 81, 3) := by decide +kernel
theorem dX8_bad_12 : decode cX8_bad 12 = .ok (.aload_n 0, 1) := by decide +kernel
theorem dX8_bad_13 : decode cX8_bad 13 = .ok (.aload_n 0, 1) := by decide +kernel
theorem dX8_bad_14 : decode cX8_bad 14 = .ok (.getfield 84, 3) := by decide +kernel
theorem dX8_bad_17 : decode cX8_bad 17 = .ok (.putfield 87, 3) := by decide +kernel
theorem dX8_bad_20 : decode cX8_bad 20 = .ok (.return_, 1) := by decide +kernel
theorem dX8_nextToken_0 : decode cX8_nextToken 0 = .ok (.aload_n 0, 1) := by decide +kernel
theorem dX8_nextToken_1 : decode cX8_nextToken 1 = .ok (.aload_n 0, 1) := by decide +kernel
theorem dX8_nextToken_2 : decode cX8_nextToken 2 = .ok (.getfield 90, 3) := by decide +kernel
theorem dX8_nextToken_5 : decode cX8_nextToken 5 = .ok (.putfield 84, 3) := by decide +kernel
theorem dX8_nextToken_8 : decode cX8_nextToken 8 = .ok (.aload_n 0, 1) := by decide +kernel
theorem dX8_nextToken_9 : decode cX8_nextToken 9 = .ok (.aload_n 0, 1) := by decide +kernel
theorem dX8_nextToken_10 : decode cX8_nextToken 10 = .ok (.getfield 90, 3) := by decide +kernel
theorem dX8_nextToken_13 : decode cX8_nextToken 13 = .ok (.aload_n 0, 1) := by decide +kernel
theorem dX8_nextToken_14 : decode cX8_nextToken 14 = .ok (.getfield 77, 3) := by decide +kernel
theorem dX8_nextToken_17 : decode cX8_nextToken 17 = .ok (.if_icmp .ge 15, 3) := by decide +kernel
theorem dX8_nextToken_20 : decode cX8_nextToken 20 = .ok (.aload_n 0, 1) := by decide +kernel
theorem dX8_nextToken_21 : decode cX8_nextToken 21 = .ok (.getfield 34, 3) := by decide +kernel
theorem dX8_nextToken_24 : decode cX8_nextToken 24 = .ok (.aload_n 0, 1) := by decide +kernel
theorem dX8_nextToken_25 : decode cX8_nextToken 25 = .ok (.getfield 90, 3) := by decide +kernel
theorem dX8_nextToken_28 : decode cX8_nextToken 28 = .ok (.iaload, 1) := by decide +kernel
theorem dX8_nextToken_29 : decode cX8_nextToken 29 = .ok (.goto 5, 3) := by decide +kernel
theorem dX8_nextToken_32 : decode cX8_nextToken 32 = .ok (.ldc 93, 2) := by decide +kernel
theorem dX8_nextToken_34 : decode cX8_nextToken 34 = .ok (.putfield 94, 3) := by decide +kernel
theorem dX8_nextToken_37 : decode cX8_nextToken 37 = .ok (.aload_n 0, 1) := by decide +kernel
theorem dX8_nextToken_38 : decode cX8_nextToken 38 = .ok (.aload_n 0, 1) := by decide +kernel
theorem dX8_nextToken_39 : decode cX8_nextToken 39 = .ok (.getfield 90, 3) := by decide +kernel
theorem dX8_nextToken_42 : decode cX8_nextToken 42 = .ok (.aload_n 0, 1) := by decide +kernel
theorem dX8_nextToken_43 : decode cX8_nextToken 43 = .ok (.getfield 77, 3) := by decide +kernel
theorem dX8_nextToken_46 : decode cX8_nextToken 46 = .ok (.if_icmp .ne 7, 3) := by decide +kernel
theorem dX8_nextToken_49 : decode cX8_nextToken 49 = .ok (.iconst 1, 1) := by decide +kernel
theorem dX8_nextToken_50 : decode cX8_nextToken 50 = .ok (.goto 68, 3) := by decide +kernel
theorem dX8_nextToken_53 : decode cX8_nextToken 53 = .ok (.aload_n 0, 1) := by decide +kernel
theorem dX8_nextToken_54 : decode cX8_nextToken 54 = .ok (.getfield 94, 3) := by decide +kernel
theorem dX8_nextToken_57 : decode cX8_nextToken 57 = .ok (.i2l, 1) := by decide +kernel
theorem dX8_nextToken_58 : decode cX8_nextToken 58 = .ok (.ldc2_w 97, 3) := by decide +kernel
theorem dX8_nextToken_61 : decode cX8_nextToken 61 = .ok (.ldc2_w 99, 3) := by decide +kernel
theorem dX8_nextToken_64 : decode cX8_nextToken 64 = .ok (.invokestatic 60, 3) := by decide +kernel
theorem dX8_nextToken_67 : decode cX8_nextToken 67 = .ok (.ifCond .eq 7, 3) := by decide +kernel
theorem dX8_nextToken_70 : decode cX8_nextToken 70 = .ok (.iconst 2, 1) := by decide +kernel
theorem dX8_nextToken_71 : decode cX8_nextToken 71 = .ok (.goto 47, 3) := by decide +kernel
theorem dX8_nextToken_74 : decode cX8_nextToken 74 = .ok (.aload_n 0, 1) := by decide +kernel
theorem dX8_nextToken_75 : decode cX8_nextToken 75 = .ok (.getfield 94, 3) := by decide +kernel
theorem dX8_nextToken_78 : decode cX8_nextToken 78 = .ok (.i2l, 1) := by decide +kernel
theorem dX8_nextToken_79 : decode cX8_nextToken 79 = .ok (.ldc2_w 101, 3) := by decide +kernel
theorem dX8_nextToken_82 : decode cX8_nextToken 82 = .ok (.ldc2_w 103, 3) := by decide +kernel
theorem dX8_nextToken_85 : decode cX8_nextToken 85 = .ok (.invokestatic 60, 3) := by decide +kernel
theorem dX8_nextToken_88 : decode cX8_nextToken 88 = .ok (.ifCond .eq 7, 3) := by decide +kernel
theorem dX8_nextToken_91 : decode cX8_nextToken 91 = .ok (.iconst 3, 1) := by decide +kernel
theorem dX8_nextToken_92 : decode cX8_nextToken 92 = .ok (.goto 26, 3) := by decide +kernel
theorem dX8_nextToken_95 : decode cX8_nextToken 95 = .ok (.aload_n 0, 1) := by decide +kernel
theorem dX8_nextToken_96 : decode cX8_nextToken 96 = .ok (.getfield 94, 3) := by decide +kernel
theorem dX8_nextToken_99 : decode cX8_nextToken 99 = .ok (.bipush 44, 2) := by decide +kernel
theorem dX8_nextToken_101 : decode cX8_nextToken 101 = .ok (.if_icmp .eq 12, 3) := by decide +kernel
theorem dX8_nextToken_104 : decode cX8_nextToken 104 = .ok (.aload_n 0, 1) := by decide +kernel
theorem dX8_nextToken_105 : decode cX8_nextToken 105 = .ok (.getfield 94, 3) := by decide +kernel
theorem dX8_nextToken_108 : decode cX8_nextToken 108 = .ok (.bipush 59, 2) := by decide +kernel
theorem dX8_nextToken_110 : decode cX8_nextToken 110 = .ok (.if_icmp .ne 7, 3) := by decide +kernel
theorem dX8_nextToken_113 : decode cX8_nextToken 113 = .ok (.iconst 4, 1) := by decide +kernel
theorem dX8_nextToken_114 : decode cX8_nextToken 114 = .ok (.goto 4, 3) := by decide +kernel
theorem dX8_nextToken_117 : decode cX8_nextToken 117 = .ok (.iconst 0, 1) := by decide +kernel
theorem dX8_nextToken_118 : decode cX8_nextToken 118 = .ok (.putfield 105, 3) := by decide +kernel
theorem dX8_nextToken_121 : decode cX8_nextToken 121 = .ok (.aload_n 0, 1) := by decide +kernel
theorem dX8_nextToken_122 : decode cX8_nextToken 122 = .ok (.dup, 1) := by decide +kernel
theorem dX8_nextToken_123 : decode cX8_nextToken 123 = .ok (.getfield 90, 3) := by decide +kernel
theorem dX8_nextToken_126 : decode cX8_nextToken 126 = .ok (.aload_n 0, 1) := by decide +kernel
theorem dX8_nextToken_127 : decode cX8_nextToken 127 = .ok (.getfield 90, 3) := by decide +kernel
theorem dX8_nextToken_130 : decode cX8_nextToken 130 = .ok (.aload_n 0, 1) := by decide +kernel
theorem dX8_nextToken_131 : decode cX8_nextToken 131 = .ok (.getfield 77, 3) := by decide +kernel
theorem dX8_nextToken_134 : decode cX8_nextToken 134 = .ok (.if_icmp .ge 7, 3) := by decide +kernel
theorem dX8_nextToken_137 : decode cX8_nextToken 137 = .ok (.iconst 1, 1) := by decide +kernel
theorem dX8_nextToken_138 : decode cX8_nextToken 138 = .ok (.goto 4, 3) := by decide +kernel
theorem dX8_nextToken_141 : decode cX8_nextToken 141 = .ok (.iconst 0, 1) := by decide +kernel
theorem dX8_nextToken_142 : decode cX8_nextToken 142 = .ok (.iadd, 1) := by decide +kernel
theorem dX8_nextToken_143 : decode cX8_nextToken 143 = .ok (.putfield 90, 3) := by decide +kernel
theorem dX8_nextToken_146 : decode cX8_nextToken 146 = .ok (.aload_n 0, 1) := by decide +kernel
theorem dX8_nextToken_147 : decode cX8_nextToken 147 = .ok (.getfield 105, 3) := by decide +kernel
theorem dX8_nextToken_150 : decode cX8_nextToken 150 = .ok (.iconst 3, 1) := by decide +kernel
theorem dX8_nextToken_151 : decode cX8_nextToken 151 = .ok (.if_icmp .ne 126, 3) := by decide +kernel
theorem dX8_nextToken_154 : decode cX8_nextToken 154 = .ok (.aload_n 0, 1) := by decide +kernel
theorem dX8_nextToken_155 : decode cX8_nextToken 155 = .ok (.dup, 1) := by decide +kernel
theorem dX8_nextToken_156 : decode cX8_nextToken 156 = .ok (.getfield 94, 3) := by decide +kernel
theorem dX8_nextToken_159 : decode cX8_nextToken 159 = .ok (.bipush 48, 2) := by decide +kernel
theorem dX8_nextToken_161 : decode cX8_nextToken 161 = .ok (.isub, 1) := by decide +kernel
theorem dX8_nextToken_162 : decode cX8_nextToken 162 = .ok (.putfield 94, 3) := by decide +kernel
theorem dX8_nextToken_165 : decode cX8_nextToken 165 = .ok (.aload_n 0, 1) := by decide +kernel
theorem dX8_nextToken_166 : decode cX8_nextToken 166 = .ok (.getfield 90, 3) := by decide +kernel
theorem dX8_nextToken_169 : decode cX8_nextToken 169 = .ok (.aload_n 0, 1) := by decide +kernel
theorem dX8_nextToken_170 : decode cX8_nextToken 170 = .ok (.getfield 77, 3) := by decide +kernel
theorem dX8_nextToken_173 : decode cX8_nextToken 173 = .ok (.if_icmp .ge 82, 3) := by decide +kernel
theorem dX8_nextToken_176 : decode cX8_nextToken 176 = .ok (.aload_n 0, 1) := by decide +kernel
theorem dX8_nextToken_177 : decode cX8_nextToken 177 = .ok (.getfield 34, 3) := by decide +kernel
theorem dX8_nextToken_180 : decode cX8_nextToken 180 = .ok (.aload_n 0, 1) := by decide +kernel
theorem dX8_nextToken_181 : decode cX8_nextToken 181 = .ok (.getfield 90, 3) := by decide +kernel
theorem dX8_nextToken_184 : decode cX8_nextToken 184 = .ok (.iaload, 1) := by decide +kernel
theorem dX8_nextToken_185 : decode cX8_nextToken 185 = .ok (.i2l, 1) := by decide +kernel
theorem dX8_nextToken_186 : decode cX8_nextToken 186 = .ok (.ldc2_w 101, 3) := by decide +kernel
theorem dX8_nextToken_189 : decode cX8_nextToken 189 = .ok (.ldc2_w 103, 3) := by decide +kernel
theorem dX8_nextToken_192 : decode cX8_nextToken 192 = .ok (.invokestatic 60, 3) := by decide +kernel
theorem dX8_nextToken_195 : decode cX8_nextToken 195 = .ok (.ifCond .eq 60, 3) := by decide +kernel
theorem dX8_nextToken_198 : decode cX8_nextToken 198 = .ok (.aload_n 0, 1) := by decide +kernel
theorem dX8_nextToken_199 : decode cX8_nextToken 199 = .ok (.aload_n 0, 1) := by decide +kernel
theorem dX8_nextToken_200 : decode cX8_nextToken 200 = .ok (.getfield 90, 3) := by decide +kernel
theorem dX8_nextToken_203 : decode cX8_nextToken 203 = .ok (.aload_n 0, 1) := by decide +kernel
theorem dX8_nextToken_204 : decode cX8_nextToken 204 = .ok (.getfield 84, 3) := by decide +kernel
theorem dX8_nextToken_207 : decode cX8_nextToken 207 = .ok (.isub, 1) := by decide +kernel
theorem dX8_nextToken_208 : decode cX8_nextToken 208 = .ok (.iconst 2, 1) := by decide +kernel
theorem dX8_nextToken_209 : decode cX8_nextToken 209 = .ok (.if_icmp .ge 26, 3) := by decide +kernel
theorem dX8_nextToken_212 : decode cX8_nextToken 212 = .ok (.bipush 10, 2) := by decide +kernel
theorem dX8_nextToken_214 : decode cX8_nextToken 214 = .ok (.aload_n 0, 1) := by decide +kernel
theorem dX8_nextToken_215 : decode cX8_nextToken 215 = .ok (.getfield 94, 3) := by decide +kernel
theorem dX8_nextToken_218 : decode cX8_nextToken 218 = .ok (.imul, 1) := by decide +kernel
theorem dX8_nextToken_219 : decode cX8_nextToken 219 = .ok (.aload_n 0, 1) := by decide +kernel
theorem dX8_nextToken_220 : decode cX8_nextToken 220 = .ok (.getfield 34, 3) := by decide +kernel
theorem dX8_nextToken_223 : decode cX8_nextToken 223 = .ok (.aload_n 0, 1) := by decide +kernel
theorem dX8_nextToken_224 : decode cX8_nextToken 224 = .ok (.getfield 90, 3) := by decide +kernel
theorem dX8_nextToken_227 : decode cX8_nextToken 227 = .ok (.iaload, 1) := by decide +kernel
theorem dX8_nextToken_228 : decode cX8_nextToken 228 = .ok (.iadd, 1) := by decide +kernel
theorem dX8_nextToken_229 : decode cX8_nextToken 229 = .ok (.bipush 48, 2) := by decide +kernel
theorem dX8_nextToken_231 : decode cX8_nextToken 231 = .ok (.isub, 1) := by decide +kernel
theorem dX8_nextToken_232 : decode cX8_nextToken 232 = .ok (.goto 7, 3) := by decide +kernel
theorem dX8_nextToken_235 : decode cX8_nextToken 235 = .ok (.aload_n 0, 1) := by decide +kernel
theorem dX8_nextToken_236 : decode cX8_nextToken 236 = .ok (.getfield 94, 3) := by decide +kernel
theorem dX8_nextToken_239 : decode cX8_nextToken 239 = .ok (.putfield 94, 3) := by decide +kernel
theorem dX8_nextToken_242 : decode cX8_nextToken 242 = .ok (.aload_n 0, 1) := by decide +kernel
theorem dX8_nextToken_243 : decode cX8_nextToken 243 = .ok (.dup, 1) := by decide +kernel
theorem dX8_nextToken_244 : decode cX8_nextToken 244 = .ok (.getfield 90, 3) := by decide +kernel
theorem dX8_nextToken_247 : decode cX8_nextToken 247 = .ok (.iconst 1, 1) := by decide +kernel
theorem dX8_nextToken_248 : decode cX8_nextToken 248 = .ok (.iadd, 1) := by decide +kernel
theorem dX8_nextToken_249 : decode cX8_nextToken 249 = .ok (.putfield 90, 3) := by decide +kernel
theorem dX8_nextToken_252 : decode cX8_nextToken 252 = .ok (.goto (-87), 3) := by decide +kernel
theorem dX8_nextToken_255 : decode cX8_nextToken 255 = .ok (.aload_n 0, 1) := by decide +kernel
theorem dX8_nextToken_256 : decode cX8_nextToken 256 = .ok (.aload_n 0, 1) := by decide +kernel
theorem dX8_nextToken_257 : decode cX8_nextToken 257 = .ok (.getfield 90, 3) := by decide +kernel
theorem dX8_nextToken_260 : decode cX8_nextToken 260 = .ok (.aload_n 0, 1) := by decide +kernel
theorem dX8_nextToken_261 : decode cX8_nextToken 261 = .ok (.getfield 84, 3) := by decide +kernel
theorem dX8_nextToken_264 : decode cX8_nextToken 264 = .ok (.isub, 1) := by decide +kernel
theorem dX8_nextToken_265 : decode cX8_nextToken 265 = .ok (.iconst 2, 1) := by decide +kernel
theorem dX8_nextToken_266 : decode cX8_nextToken 266 = .ok (.if_icmp .le 7, 3) := by decide +kernel
theorem dX8_nextToken_269 : decode cX8_nextToken 269 = .ok (.iconst 0, 1) := by decide +kernel
theorem dX8_nextToken_270 : decode cX8_nextToken 270 = .ok (.goto 4, 3) := by decide +kernel
theorem dX8_nextToken_273 : decode cX8_nextToken 273 = .ok (.iconst 3, 1) := by decide +kernel
theorem dX8_nextToken_274 : decode cX8_nextToken 274 = .ok (.putfield 105, 3) := by decide +kernel
theorem dX8_nextToken_277 : decode cX8_nextToken 277 = .ok (.return_, 1) := by decide +kernel
theorem dX8_must_0 : decode cX8_must 0 = .ok (.iload_n 1, 1) := by decide +kernel
theorem dX8_must_1 : decode cX8_must 1 = .ok (.ifCond .ne 8, 3) := by decide +kernel
theorem dX8_must_4 : decode cX8_must 4 = .ok (.aload_n 0, 1) := by decide +kernel
theorem dX8_must_5 : decode cX8_must 5 = .ok (.iconst 1, 1) := by decide +kernel
theorem dX8_must_6 : decode cX8_must 6 = .ok (.invokevirtual 108, 3) := by decide +kernel
theorem dX8_must_9 : decode cX8_must 9 = .ok (.aload_n 0, 1) := by decide +kernel
theorem dX8_must_10 : decode cX8_must 10 = .ok (.getfield 81, 3) := by decide +kernel
theorem dX8_must_13 : decode cX8_must 13 = .ok (.ifCond .ne 7, 3) := by decide +kernel
theorem dX8_must_16 : decode cX8_must 16 = .ok (.aload_n 0, 1) := by decide +kernel
theorem dX8_must_17 : decode cX8_must 17 = .ok (.invokevirtual 112, 3) := by decide +kernel
theorem dX8_must_20 : decode cX8_must 20 = .ok (.return_, 1) := by decide +kernel
theorem dX8_isLetter_0 : decode cX8_isLetter 0 = .ok (.aload_n 0, 1) := by decide +kernel
theorem dX8_isLetter_1 : decode cX8_isLetter 1 = .ok (.getfield 81, 3) := by decide +kernel
theorem dX8_isLetter_4 : decode cX8_isLetter 4 = .ok (.ifCond .ne 23, 3) := by decide +kernel
theorem dX8_isLetter_7 : decode cX8_isLetter 7 = .ok (.aload_n 0, 1) := by decide +kernel
theorem dX8_isLetter_8 : decode cX8_isLetter 8 = .ok (.getfield 105, 3) := by decide +kernel
theorem dX8_isLetter_11 : decode cX8_isLetter 11 = .ok (.iconst 2, 1) := by decide +kernel
theorem dX8_isLetter_12 : decode cX8_isLetter 12 = .ok (.if_icmp .ne 15, 3) := by decide +kernel
theorem dX8_isLetter_15 : decode cX8_isLetter 15 = .ok (.aload_n 0, 1) := by decide +kernel
theorem dX8_isLetter_16 : decode cX8_isLetter 16 = .ok (.getfield 94, 3) := by decide +kernel
theorem dX8_isLetter_19 : decode cX8_isLetter 19 = .ok (.iload_n 1, 1) := by decide +kernel
theorem dX8_isLetter_20 : decode cX8_isLetter 20 = .ok (.if_icmp .ne 7, 3) := by decide +kernel
theorem dX8_isLetter_23 : decode cX8_isLetter 23 = .ok (.iconst 1, 1) := by decide +kernel
theorem dX8_isLetter_24 : decode cX8_isLetter 24 = .ok (.goto 4, 3) := by decide +kernel
theorem dX8_isLetter_27 : decode cX8_isLetter 27 = .ok (.iconst 0, 1) := by decide +kernel
theorem dX8_isLetter_28 : decode cX8_isLetter 28 = .ok (.ireturn, 1) := by decide +kernel
theorem dX8_number_0 : decode cX8_number 0 = .ok (.aload_n 0, 1) := by decide +kernel
theorem dX8_number_1 : decode cX8_number 1 = .ok (.getfield 81, 3) := by decide +kernel
theorem dX8_number_4 : decode cX8_number 4 = .ok (.ifCond .ne 16, 3) := by decide +kernel
theorem dX8_number_7 : decode cX8_number 7 = .ok (.aload_n 0, 1) := by decide +kernel
theorem dX8_number_8 : decode cX8_number 8 = .ok (.getfield 105, 3) := by decide +kernel
theorem dX8_number_11 : decode cX8_number 11 = .ok (.iconst 3, 1) := by decide +kernel
theorem dX8_number_12 : decode cX8_number 12 = .ok (.if_icmp .eq 8, 3) := by decide +kernel
theorem dX8_number_15 : decode cX8_number 15 = .ok (.aload_n 0, 1) := by decide +kernel
theorem dX8_number_16 : decode cX8_number 16 = .ok (.iconst 1, 1) := by decide +kernel
theorem dX8_number_17 : decode cX8_number 17 = .ok (.invokevirtual 108, 3) := by decide +kernel
theorem dX8_number_20 : decode cX8_number 20 = .ok (.aload_n 0, 1) := by decide +kernel
theorem dX8_number_21 : decode cX8_number 21 = .ok (.getfield 81, 3) := by decide +kernel
theorem dX8_number_24 : decode cX8_number 24 = .ok (.ifCond .ne 23, 3) := by decide +kernel
theorem dX8_number_27 : decode cX8_number 27 = .ok (.aload_n 0, 1) := by decide +kernel
theorem dX8_number_28 : decode cX8_number 28 = .ok (.getfield 94, 3) := by decide +kernel
theorem dX8_number_31 : decode cX8_number 31 = .ok (.i2l, 1) := by decide +kernel
theorem dX8_number_32 : decode cX8_number 32 = .ok (.iload_n 1, 1) := by decide +kernel
theorem dX8_number_33 : decode cX8_number 33 = .ok (.i2l, 1) := by decide +kernel
theorem dX8_number_34 : decode cX8_number 34 = .ok (.iload_n 2, 1) := by decide +kernel
theorem dX8_number_35 : decode cX8_number 35 = .ok (.i2l, 1) := by decide +kernel
theorem dX8_number_36 : decode cX8_number 36 = .ok (.invokestatic 60, 3) := by decide +kernel
theorem dX8_number_39 : decode cX8_number 39 = .ok (.ifCond .ne 8, 3) := by decide +kernel
theorem dX8_number_42 : decode cX8_number 42 = .ok (.aload_n 0, 1) := by decide +kernel
theorem dX8_number_43 : decode cX8_number 43 = .ok (.iconst 2, 1) := by decide +kernel
theorem dX8_number_44 : decode cX8_number 44 = .ok (.invokevirtual 108, 3) := by decide +kernel
theorem dX8_number_47 : decode cX8_number 47 = .ok (.aload_n 0, 1) := by decide +kernel
theorem dX8_number_48 : decode cX8_number 48 = .ok (.getfield 81, 3) := by decide +kernel
theorem dX8_number_51 : decode cX8_number 51 = .ok (.ifCond .ne 10, 3) := by decide +kernel
theorem dX8_number_54 : decode cX8_number 54 = .ok (.aload_n 0, 1) := by decide +kernel
theorem dX8_number_55 : decode cX8_number 55 = .ok (.getfield 94, 3) := by decide +kernel
theorem dX8_number_58 : decode cX8_number 58 = .ok (.goto 4, 3) := by decide +kernel
theorem dX8_number_61 : decode cX8_number 61 = .ok (.iload_n 1, 1) := by decide +kernel
theorem dX8_number_62 : decode cX8_number 62 = .ok (.istore_n 3, 1) := by decide +kernel
theorem dX8_number_63 : decode cX8_number 63 = .ok (.aload_n 0, 1) := by decide +kernel
theorem dX8_number_64 : decode cX8_number 64 = .ok (.iconst 1, 1) := by decide +kernel
theorem dX8_number_65 : decode cX8_number 65 = .ok (.invokevirtual 115, 3) := by decide +kernel
theorem dX8_number_68 : decode cX8_number 68 = .ok (.iload_n 3, 1) := by decide +kernel
theorem dX8_number_69 : decode cX8_number 69 = .ok (.ireturn, 1) := by decide +kernel
theorem dX8_mustSign_0 : decode cX8_mustSign 0 = .ok (.aload_n 0, 1) := by decide +kernel
theorem dX8_mustSign_1 : decode cX8_mustSign 1 = .ok (.aload_n 0, 1) := by decide +kernel
theorem dX8_mustSign_2 : decode cX8_mustSign 2 = .ok (.getfield 105, 3) := by decide +kernel
theorem dX8_mustSign_5 : decode cX8_mustSign 5 = .ok (.iconst 4, 1) := by decide +kernel
theorem dX8_mustSign_6 : decode cX8_mustSign 6 = .ok (.if_icmp .ne 15, 3) := by decide +kernel
theorem dX8_mustSign_9 : decode cX8_mustSign 9 = .ok (.aload_n 0, 1) := by decide +kernel
theorem dX8_mustSign_10 : decode cX8_mustSign 10 = .ok (.getfield 94, 3) := by decide +kernel
theorem dX8_mustSign_13 : decode cX8_mustSign 13 = .ok (.iload_n 1, 1) := by decide +kernel
theorem dX8_mustSign_14 : decode cX8_mustSign 14 = .ok (.if_icmp .ne 7, 3) := by decide +kernel
theorem dX8_mustSign_17 : decode cX8_mustSign 17 = .ok (.iconst 1, 1) := by decide +kernel
theorem dX8_mustSign_18 : decode cX8_mustSign 18 = .ok (.goto 4, 3) := by decide +kernel
theorem dX8_mustSign_21 : decode cX8_mustSign 21 = .ok (.iconst 0, 1) := by decide +kernel
theorem dX8_mustSign_22 : decode cX8_mustSign 22 = .ok (.invokevirtual 115, 3) := by decide +kernel
theorem dX8_mustSign_25 : decode cX8_mustSign 25 = .ok (.return_, 1) := by decide +kernel
theorem dX8_begin_0 : decode cX8_begin 0 = .ok (.aload_n 0, 1) := by decide +kernel
theorem dX8_begin_1 : decode cX8_begin 1 = .ok (.iconst 0, 1) := by decide +kernel
theorem dX8_begin_2 : decode cX8_begin 2 = .ok (.putfield 90, 3) := by decide +kernel
theorem dX8_begin_5 : decode cX8_begin 5 = .ok (.aload_n 0, 1) := by decide +kernel
theorem dX8_begin_6 : decode cX8_begin 6 = .ok (.iconst 0, 1) := by decide +kernel
theorem dX8_begin_7 : decode cX8_begin 7 = .ok (.putfield 81, 3) := by decide +kernel
theorem dX8_begin_10 : decode cX8_begin 10 = .ok (.aload_n 0, 1) := by decide +kernel
theorem dX8_begin_11 : decode cX8_begin 11 = .ok (.invokevirtual 112, 3) := by decide +kernel
theorem dX8_begin_14 : decode cX8_begin 14 = .ok (.return_, 1) := by decide +kernel
theorem dX8_failed_0 : decode cX8_failed 0 = .ok (.aload_n 0, 1) := by decide +kernel
theorem dX8_failed_1 : decode cX8_failed 1 = .ok (.getfield 81, 3) := by decide +kernel
theorem dX8_failed_4 : decode cX8_failed 4 = .ok (.ifCond .ne 16, 3) := by decide +kernel
theorem dX8_failed_7 : decode cX8_failed 7 = .ok (.aload_n 0, 1) := by decide +kernel
theorem dX8_failed_8 : decode cX8_failed 8 = .ok (.getfield 105, 3) := by decide +kernel
theorem dX8_failed_11 : decode cX8_failed 11 = .ok (.iconst 1, 1) := by decide +kernel
theorem dX8_failed_12 : decode cX8_failed 12 = .ok (.if_icmp .eq 8, 3) := by decide +kernel
theorem dX8_failed_15 : decode cX8_failed 15 = .ok (.aload_n 0, 1) := by decide +kernel
theorem dX8_failed_16 : decode cX8_failed 16 = .ok (.iconst 1, 1) := by decide +kernel
theorem dX8_failed_17 : decode cX8_failed 17 = .ok (.invokevirtual 108, 3) := by decide +kernel
theorem dX8_failed_20 : decode cX8_failed 20 = .ok (.aload_n 0, 1) := by decide +kernel
theorem dX8_failed_21 : decode cX8_failed 21 = .ok (.iconst 0, 1) := by decide +kernel
theorem dX8_failed_22 : decode cX8_failed 22 = .ok (.putfield 77, 3) := by decide +kernel
theorem dX8_failed_25 : decode cX8_failed 25 = .ok (.aload_n 0, 1) := by decide +kernel
theorem dX8_failed_26 : decode cX8_failed 26 = .ok (.aload_n 0, 1) := by decide +kernel
theorem dX8_failed_27 : decode cX8_failed 27 = .ok (.getfield 81, 3) := by decide +kernel
theorem dX8_failed_30 : decode cX8_failed 30 = .ok (.ifCond .le 10, 3) := by decide +kernel
theorem dX8_failed_33 : decode cX8_failed 33 = .ok (.aload_n 0, 1) := by decide +kernel
theorem dX8_failed_34 : decode cX8_failed 34 = .ok (.getfield 81, 3) := by decide +kernel
theorem dX8_failed_37 : decode cX8_failed 37 = .ok (.goto 7, 3) := by decide +kernel
theorem dX8_failed_40 : decode cX8_failed 40 = .ok (.aload_n 0, 1) := by decide +kernel
theorem dX8_failed_41 : decode cX8_failed 41 = .ok (.getfield 119, 3) := by decide +kernel
theorem dX8_failed_44 : decode cX8_failed 44 = .ok (.putfield 119, 3) := by decide +kernel
theorem dX8_failed_47 : decode cX8_failed 47 = .ok (.aload_n 0, 1) := by decide +kernel
theorem dX8_failed_48 : decode cX8_failed 48 = .ok (.getfield 81, 3) := by decide +kernel
theorem dX8_failed_51 : decode cX8_failed 51 = .ok (.ifCond .le 7, 3) := by decide +kernel
theorem dX8_failed_54 : decode cX8_failed 54 = .ok (.iconst 1, 1) := by decide +kernel
theorem dX8_failed_55 : decode cX8_failed 55 = .ok (.goto 4, 3) := by decide +kernel
theorem dX8_failed_58 : decode cX8_failed 58 = .ok (.iconst 0, 1) := by decide +kernel
theorem dX8_failed_59 : decode cX8_failed 59 = .ok (.ireturn, 1) := by decide +kernel
theorem dX8_fault_0 : decode cX8_fault 0 = .ok (.aload_n 0, 1) := by decide +kernel
theorem dX8_fault_1 : decode cX8_fault 1 = .ok (.iconst 0, 1) := by decide +kernel
theorem dX8_fault_2 : decode cX8_fault 2 = .ok (.putfield 50, 3) := by decide +kernel
theorem dX8_fault_5 : decode cX8_fault 5 = .ok (.aload_n 0, 1) := by decide +kernel
theorem dX8_fault_6 : decode cX8_fault 6 = .ok (.getfield 119, 3) := by decide +kernel
theorem dX8_fault_9 : decode cX8_fault 9 = .ok (.ireturn, 1) := by decide +kernel
theorem dX8_kindBy_0 : decode cX8_kindBy 0 = .ok (.iload_n 0, 1) := by decide +kernel
theorem dX8_kindBy_1 : decode cX8_kindBy 1 = .ok (.bipush 98, 2) := by decide +kernel
theorem dX8_kindBy_3 : decode cX8_kindBy 3 = .ok (.if_icmp .ne 7, 3) := by decide +kernel
theorem dX8_kindBy_6 : decode cX8_kindBy 6 = .ok (.iconst 1, 1) := by decide +kernel
theorem dX8_kindBy_7 : decode cX8_kindBy 7 = .ok (.goto 45, 3) := by decide +kernel
theorem dX8_kindBy_10 : decode cX8_kindBy 10 = .ok (.iload_n 0, 1) := by decide +kernel
theorem dX8_kindBy_11 : decode cX8_kindBy 11 = .ok (.bipush 102, 2) := by decide +kernel
theorem dX8_kindBy_13 : decode cX8_kindBy 13 = .ok (.if_icmp .ne 7, 3) := by decide +kernel
theorem dX8_kindBy_16 : decode cX8_kindBy 16 = .ok (.iconst 2, 1) := by decide +kernel
theorem dX8_kindBy_17 : decode cX8_kindBy 17 = .ok (.goto 35, 3) := by decide +kernel
theorem dX8_kindBy_20 : decode cX8_kindBy 20 = .ok (.iload_n 0, 1) := by decide +kernel
theorem dX8_kindBy_21 : decode cX8_kindBy 21 = .ok (.bipush 116, 2) := by decide +kernel
theorem dX8_kindBy_23 : decode cX8_kindBy 23 = .ok (.if_icmp .ne 7, 3) := by decide +kernel
theorem dX8_kindBy_26 : decode cX8_kindBy 26 = .ok (.iconst 3, 1) := by decide +kernel
theorem dX8_kindBy_27 : decode cX8_kindBy 27 = .ok (.goto 25, 3) := by decide +kernel
theorem dX8_kindBy_30 : decode cX8_kindBy 30 = .ok (.iload_n 0, 1) := by decide +kernel
theorem dX8_kindBy_31 : decode cX8_kindBy 31 = .ok (.bipush 108, 2) := by decide +kernel
theorem dX8_kindBy_33 : decode cX8_kindBy 33 = .ok (.if_icmp .ne 7, 3) := by decide +kernel
theorem dX8_kindBy_36 : decode cX8_kindBy 36 = .ok (.iconst 4, 1) := by decide +kernel
theorem dX8_kindBy_37 : decode cX8_kindBy 37 = .ok (.goto 15, 3) := by decide +kernel
theorem dX8_kindBy_40 : decode cX8_kindBy 40 = .ok (.iload_n 0, 1) := by decide +kernel
theorem dX8_kindBy_41 : decode cX8_kindBy 41 = .ok (.bipush 99, 2) := by decide +kernel
theorem dX8_kindBy_43 : decode cX8_kindBy 43 = .ok (.if_icmp .ne 7, 3) := by decide +kernel
theorem dX8_kindBy_46 : decode cX8_kindBy 46 = .ok (.iconst 5, 1) := by decide +kernel
theorem dX8_kindBy_47 : decode cX8_kindBy 47 = .ok (.goto 5, 3) := by decide +kernel
theorem dX8_kindBy_50 : decode cX8_kindBy 50 = .ok (.ldc 93, 2) := by decide +kernel
theorem dX8_kindBy_52 : decode cX8_kindBy 52 = .ok (.ireturn, 1) := by decide +kernel
theorem dX8_isSort_0 : decode cX8_isSort 0 = .ok (.aload_n 0, 1) := by decide +kernel
theorem dX8_isSort_1 : decode cX8_isSort 1 = .ok (.getfield 81, 3) := by decide +kernel
theorem dX8_isSort_4 : decode cX8_isSort 4 = .ok (.ifCond .ne 27, 3) := by decide +kernel
theorem dX8_isSort_7 : decode cX8_isSort 7 = .ok (.aload_n 0, 1) := by decide +kernel
theorem dX8_isSort_8 : decode cX8_isSort 8 = .ok (.getfield 105, 3) := by decide +kernel
theorem dX8_isSort_11 : decode cX8_isSort 11 = .ok (.iconst 2, 1) := by decide +kernel
theorem dX8_isSort_12 : decode cX8_isSort 12 = .ok (.if_icmp .ne 19, 3) := by decide +kernel
theorem dX8_isSort_15 : decode cX8_isSort 15 = .ok (.aload_n 0, 1) := by decide +kernel
theorem dX8_isSort_16 : decode cX8_isSort 16 = .ok (.getfield 94, 3) := by decide +kernel
theorem dX8_isSort_19 : decode cX8_isSort 19 = .ok (.invokestatic 122, 3) := by decide +kernel
theorem dX8_isSort_22 : decode cX8_isSort 22 = .ok (.ldc 93, 2) := by decide +kernel
theorem dX8_isSort_24 : decode cX8_isSort 24 = .ok (.if_icmp .eq 7, 3) := by decide +kernel
theorem dX8_isSort_27 : decode cX8_isSort 27 = .ok (.iconst 1, 1) := by decide +kernel
theorem dX8_isSort_28 : decode cX8_isSort 28 = .ok (.goto 4, 3) := by decide +kernel
theorem dX8_isSort_31 : decode cX8_isSort 31 = .ok (.iconst 0, 1) := by decide +kernel
theorem dX8_isSort_32 : decode cX8_isSort 32 = .ok (.ireturn, 1) := by decide +kernel
theorem dX8_readWind_0 : decode cX8_readWind 0 = .ok (.aload_n 0, 1) := by decide +kernel
theorem dX8_readWind_1 : decode cX8_readWind 1 = .ok (.getfield 22, 3) := by decide +kernel
theorem dX8_readWind_4 : decode cX8_readWind 4 = .ok (.iconst 1, 1) := by decide +kernel
theorem dX8_readWind_5 : decode cX8_readWind 5 = .ok (.iaload, 1) := by decide +kernel
theorem dX8_readWind_6 : decode cX8_readWind 6 = .ok (.bipush 6, 2) := by decide +kernel
theorem dX8_readWind_8 : decode cX8_readWind 8 = .ok (.if_icmp .ne 8, 3) := by decide +kernel
theorem dX8_readWind_11 : decode cX8_readWind 11 = .ok (.aload_n 0, 1) := by decide +kernel
theorem dX8_readWind_12 : decode cX8_readWind 12 = .ok (.iconst 3, 1) := by decide +kernel
theorem dX8_readWind_13 : decode cX8_readWind 13 = .ok (.invokevirtual 108, 3) := by decide +kernel
theorem dX8_readWind_16 : decode cX8_readWind 16 = .ok (.aload_n 0, 1) := by decide +kernel
theorem dX8_readWind_17 : decode cX8_readWind 17 = .ok (.aload_n 0, 1) := by decide +kernel
theorem dX8_readWind_18 : decode cX8_readWind 18 = .ok (.bipush 119, 2) := by decide +kernel
theorem dX8_readWind_20 : decode cX8_readWind 20 = .ok (.invokevirtual 125, 3) := by decide +kernel
theorem dX8_readWind_23 : decode cX8_readWind 23 = .ok (.invokevirtual 115, 3) := by decide +kernel
theorem dX8_readWind_26 : decode cX8_readWind 26 = .ok (.aload_n 0, 1) := by decide +kernel
theorem dX8_readWind_27 : decode cX8_readWind 27 = .ok (.iconst 0, 1) := by decide +kernel
theorem dX8_readWind_28 : decode cX8_readWind 28 = .ok (.bipush 9, 2) := by decide +kernel
theorem dX8_readWind_30 : decode cX8_readWind 30 = .ok (.invokevirtual 128, 3) := by decide +kernel
theorem dX8_readWind_33 : decode cX8_readWind 33 = .ok (.istore_n 1, 1) := by decide +kernel
theorem dX8_readWind_34 : decode cX8_readWind 34 = .ok (.aload_n 0, 1) := by decide +kernel
theorem dX8_readWind_35 : decode cX8_readWind 35 = .ok (.bipush 59, 2) := by decide +kernel
theorem dX8_readWind_37 : decode cX8_readWind 37 = .ok (.invokevirtual 132, 3) := by decide +kernel
theorem dX8_readWind_40 : decode cX8_readWind 40 = .ok (.aload_n 0, 1) := by decide +kernel
theorem dX8_readWind_41 : decode cX8_readWind 41 = .ok (.getfield 81, 3) := by decide +kernel
theorem dX8_readWind_44 : decode cX8_readWind 44 = .ok (.ifCond .ne 27, 3) := by decide +kernel
theorem dX8_readWind_47 : decode cX8_readWind 47 = .ok (.aload_n 0, 1) := by decide +kernel
theorem dX8_readWind_48 : decode cX8_readWind 48 = .ok (.getfield 22, 3) := by decide +kernel
theorem dX8_readWind_51 : decode cX8_readWind 51 = .ok (.iconst 5, 1) := by decide +kernel
theorem dX8_readWind_52 : decode cX8_readWind 52 = .ok (.aload_n 0, 1) := by decide +kernel
theorem dX8_readWind_53 : decode cX8_readWind 53 = .ok (.getfield 22, 3) := by decide +kernel
theorem dX8_readWind_56 : decode cX8_readWind 56 = .ok (.iconst 1, 1) := by decide +kernel
theorem dX8_readWind_57 : decode cX8_readWind 57 = .ok (.iaload, 1) := by decide +kernel
theorem dX8_readWind_58 : decode cX8_readWind 58 = .ok (.iadd, 1) := by decide +kernel
theorem dX8_readWind_59 : decode cX8_readWind 59 = .ok (.iload_n 1, 1) := by decide +kernel
theorem dX8_readWind_60 : decode cX8_readWind 60 = .ok (.iastore, 1) := by decide +kernel
theorem dX8_readWind_61 : decode cX8_readWind 61 = .ok (.aload_n 0, 1) := by decide +kernel
theorem dX8_readWind_62 : decode cX8_readWind 62 = .ok (.getfield 22, 3) := by decide +kernel
theorem dX8_readWind_65 : decode cX8_readWind 65 = .ok (.iconst 1, 1) := by decide +kernel
theorem dX8_readWind_66 : decode cX8_readWind 66 = .ok (.dup2, 1) := by decide +kernel
theorem dX8_readWind_67 : decode cX8_readWind 67 = .ok (.iaload, 1) := by decide +kernel
theorem dX8_readWind_68 : decode cX8_readWind 68 = .ok (.iconst 1, 1) := by decide +kernel
theorem dX8_readWind_69 : decode cX8_readWind 69 = .ok (.iadd, 1) := by decide +kernel
theorem dX8_readWind_70 : decode cX8_readWind 70 = .ok (.iastore, 1) := by decide +kernel
theorem dX8_readWind_71 : decode cX8_readWind 71 = .ok (.return_, 1) := by decide +kernel
theorem dX8_readPaper_0 : decode cX8_readPaper 0 = .ok (.aload_n 0, 1) := by decide +kernel
theorem dX8_readPaper_1 : decode cX8_readPaper 1 = .ok (.getfield 94, 3) := by decide +kernel
theorem dX8_readPaper_4 : decode cX8_readPaper 4 = .ok (.invokestatic 122, 3) := by decide +kernel
theorem dX8_readPaper_7 : decode cX8_readPaper 7 = .ok (.istore_n 1, 1) := by decide +kernel
theorem dX8_readPaper_8 : decode cX8_readPaper 8 = .ok (.aload_n 0, 1) := by decide +kernel
theorem dX8_readPaper_9 : decode cX8_readPaper 9 = .ok (.getfield 22, 3) := by decide +kernel
theorem dX8_readPaper_12 : decode cX8_readPaper 12 = .ok (.iconst 0, 1) := by decide +kernel
theorem dX8_readPaper_13 : decode cX8_readPaper 13 = .ok (.iaload, 1) := by decide +kernel
theorem dX8_readPaper_14 : decode cX8_readPaper 14 = .ok (.bipush 6, 2) := by decide +kernel
theorem dX8_readPaper_16 : decode cX8_readPaper 16 = .ok (.if_icmp .ne 8, 3) := by decide +kernel
theorem dX8_readPaper_19 : decode cX8_readPaper 19 = .ok (.aload_n 0, 1) := by decide +kernel
theorem dX8_readPaper_20 : decode cX8_readPaper 20 = .ok (.iconst 3, 1) := by decide +kernel
theorem dX8_readPaper_21 : decode cX8_readPaper 21 = .ok (.invokevirtual 108, 3) := by decide +kernel
theorem dX8_readPaper_24 : decode cX8_readPaper 24 = .ok (.aload_n 0, 1) := by decide +kernel
theorem dX8_readPaper_25 : decode cX8_readPaper 25 = .ok (.iconst 1, 1) := by decide +kernel
theorem dX8_readPaper_26 : decode cX8_readPaper 26 = .ok (.invokevirtual 115, 3) := by decide +kernel
theorem dX8_readPaper_29 : decode cX8_readPaper 29 = .ok (.aload_n 0, 1) := by decide +kernel
theorem dX8_readPaper_30 : decode cX8_readPaper 30 = .ok (.iconst 0, 1) := by decide +kernel
theorem dX8_readPaper_31 : decode cX8_readPaper 31 = .ok (.bipush 9, 2) := by decide +kernel
theorem dX8_readPaper_33 : decode cX8_readPaper 33 = .ok (.invokevirtual 128, 3) := by decide +kernel
theorem dX8_readPaper_36 : decode cX8_readPaper 36 = .ok (.istore_n 2, 1) := by decide +kernel
theorem dX8_readPaper_37 : decode cX8_readPaper 37 = .ok (.aload_n 0, 1) := by decide +kernel
theorem dX8_readPaper_38 : decode cX8_readPaper 38 = .ok (.bipush 44, 2) := by decide +kernel
theorem dX8_readPaper_40 : decode cX8_readPaper 40 = .ok (.invokevirtual 132, 3) := by decide +kernel
theorem dX8_readPaper_43 : decode cX8_readPaper 43 = .ok (.aload_n 0, 1) := by decide +kernel
theorem dX8_readPaper_44 : decode cX8_readPaper 44 = .ok (.iconst 1, 1) := by decide +kernel
theorem dX8_readPaper_45 : decode cX8_readPaper 45 = .ok (.bipush 60, 2) := by decide +kernel
theorem dX8_readPaper_47 : decode cX8_readPaper 47 = .ok (.invokevirtual 128, 3) := by decide +kernel
theorem dX8_readPaper_50 : decode cX8_readPaper 50 = .ok (.istore_n 3, 1) := by decide +kernel
theorem dX8_readPaper_51 : decode cX8_readPaper 51 = .ok (.aload_n 0, 1) := by decide +kernel
theorem dX8_readPaper_52 : decode cX8_readPaper 52 = .ok (.bipush 59, 2) := by decide +kernel
theorem dX8_readPaper_54 : decode cX8_readPaper 54 = .ok (.invokevirtual 132, 3) := by decide +kernel
theorem dX8_readPaper_57 : decode cX8_readPaper 57 = .ok (.aload_n 0, 1) := by decide +kernel
theorem dX8_readPaper_58 : decode cX8_readPaper 58 = .ok (.getfield 81, 3) := by decide +kernel
theorem dX8_readPaper_61 : decode cX8_readPaper 61 = .ok (.ifCond .ne 55, 3) := by decide +kernel
theorem dX8_readPaper_64 : decode cX8_readPaper 64 = .ok (.bipush 11, 2) := by decide +kernel
theorem dX8_readPaper_66 : decode cX8_readPaper 66 = .ok (.bipush 7, 2) := by decide +kernel
theorem dX8_readPaper_68 : decode cX8_readPaper 68 = .ok (.aload_n 0, 1) := by decide +kernel
theorem dX8_readPaper_69 : decode cX8_readPaper 69 = .ok (.getfield 22, 3) := by decide +kernel
theorem dX8_readPaper_72 : decode cX8_readPaper 72 = .ok (.iconst 0, 1) := by decide +kernel
theorem dX8_readPaper_73 : decode cX8_readPaper 73 = .ok (.iaload, 1) := by decide +kernel
theorem dX8_readPaper_74 : decode cX8_readPaper 74 = .ok (.imul, 1) := by decide +kernel
theorem dX8_readPaper_75 : decode cX8_readPaper 75 = .ok (.iadd, 1) := by decide +kernel
theorem dX8_readPaper_76 : decode cX8_readPaper 76 = .ok (.istore 4, 2) := by decide +kernel
theorem dX8_readPaper_78 : decode cX8_readPaper 78 = .ok (.aload_n 0, 1) := by decide +kernel
theorem dX8_readPaper_79 : decode cX8_readPaper 79 = .ok (.getfield 22, 3) := by decide +kernel
theorem dX8_readPaper_82 : decode cX8_readPaper 82 = .ok (.iload 4, 2) := by decide +kernel
theorem dX8_readPaper_84 : decode cX8_readPaper 84 = .ok (.iload_n 1, 1) := by decide +kernel
theorem dX8_readPaper_85 : decode cX8_readPaper 85 = .ok (.iastore, 1) := by decide +kernel
theorem dX8_readPaper_86 : decode cX8_readPaper 86 = .ok (.aload_n 0, 1) := by decide +kernel
theorem dX8_readPaper_87 : decode cX8_readPaper 87 = .ok (.getfield 22, 3) := by decide +kernel
theorem dX8_readPaper_90 : decode cX8_readPaper 90 = .ok (.iload 4, 2) := by decide +kernel
theorem dX8_readPaper_92 : decode cX8_readPaper 92 = .ok (.iconst 1, 1) := by decide +kernel
theorem dX8_readPaper_93 : decode cX8_readPaper 93 = .ok (.iadd, 1) := by decide +kernel
theorem dX8_readPaper_94 : decode cX8_readPaper 94 = .ok (.iload_n 2, 1) := by decide +kernel
theorem dX8_readPaper_95 : decode cX8_readPaper 95 = .ok (.iastore, 1) := by decide +kernel
theorem dX8_readPaper_96 : decode cX8_readPaper 96 = .ok (.aload_n 0, 1) := by decide +kernel
theorem dX8_readPaper_97 : decode cX8_readPaper 97 = .ok (.getfield 22, 3) := by decide +kernel
theorem dX8_readPaper_100 : decode cX8_readPaper 100 = .ok (.iload 4, 2) := by decide +kernel
theorem dX8_readPaper_102 : decode cX8_readPaper 102 = .ok (.iconst 2, 1) := by decide +kernel
theorem dX8_readPaper_103 : decode cX8_readPaper 103 = .ok (.iadd, 1) := by decide +kernel
theorem dX8_readPaper_104 : decode cX8_readPaper 104 = .ok (.iload_n 3, 1) := by decide +kernel
theorem dX8_readPaper_105 : decode cX8_readPaper 105 = .ok (.iastore, 1) := by decide +kernel
theorem dX8_readPaper_106 : decode cX8_readPaper 106 = .ok (.aload_n 0, 1) := by decide +kernel
theorem dX8_readPaper_107 : decode cX8_readPaper 107 = .ok (.getfield 22, 3) := by decide +kernel
theorem dX8_readPaper_110 : decode cX8_readPaper 110 = .ok (.iconst 0, 1) := by decide +kernel
theorem dX8_readPaper_111 : decode cX8_readPaper 111 = .ok (.dup2, 1) := by decide +kernel
theorem dX8_readPaper_112 : decode cX8_readPaper 112 = .ok (.iaload, 1) := by decide +kernel
theorem dX8_readPaper_113 : decode cX8_readPaper 113 = .ok (.iconst 1, 1) := by decide +kernel
theorem dX8_readPaper_114 : decode cX8_readPaper 114 = .ok (.iadd, 1) := by decide +kernel
theorem dX8_readPaper_115 : decode cX8_readPaper 115 = .ok (.iastore, 1) := by decide +kernel
theorem dX8_readPaper_116 : decode cX8_readPaper 116 = .ok (.return_, 1) := by decide +kernel
theorem dX8_roof_0 : decode cX8_roof 0 = .ok (.aload_n 0, 1) := by decide +kernel
theorem dX8_roof_1 : decode cX8_roof 1 = .ok (.iconst 0, 1) := by decide +kernel
theorem dX8_roof_2 : decode cX8_roof 2 = .ok (.putfield 50, 3) := by decide +kernel
theorem dX8_roof_5 : decode cX8_roof 5 = .ok (.aload_n 0, 1) := by decide +kernel
theorem dX8_roof_6 : decode cX8_roof 6 = .ok (.invokevirtual 135, 3) := by decide +kernel
theorem dX8_roof_9 : decode cX8_roof 9 = .ok (.iconst 0, 1) := by decide +kernel
theorem dX8_roof_10 : decode cX8_roof 10 = .ok (.istore_n 1, 1) := by decide +kernel
theorem dX8_roof_11 : decode cX8_roof 11 = .ok (.iload_n 1, 1) := by decide +kernel
theorem dX8_roof_12 : decode cX8_roof 12 = .ok (.bipush 53, 2) := by decide +kernel
theorem dX8_roof_14 : decode cX8_roof 14 = .ok (.if_icmp .ge 16, 3) := by decide +kernel
theorem dX8_roof_17 : decode cX8_roof 17 = .ok (.aload_n 0, 1) := by decide +kernel
theorem dX8_roof_18 : decode cX8_roof 18 = .ok (.getfield 22, 3) := by decide +kernel
theorem dX8_roof_21 : decode cX8_roof 21 = .ok (.iload_n 1, 1) := by decide +kernel
theorem dX8_roof_22 : decode cX8_roof 22 = .ok (.iconst 0, 1) := by decide +kernel
theorem dX8_roof_23 : decode cX8_roof 23 = .ok (.iastore, 1) := by decide +kernel
theorem dX8_roof_24 : decode cX8_roof 24 = .ok (.iinc 1 1, 3) := by decide +kernel
theorem dX8_roof_27 : decode cX8_roof 27 = .ok (.goto (-16), 3) := by decide +kernel
theorem dX8_roof_30 : decode cX8_roof 30 = .ok (.aload_n 0, 1) := by decide +kernel
theorem dX8_roof_31 : decode cX8_roof 31 = .ok (.aload_n 0, 1) := by decide +kernel
theorem dX8_roof_32 : decode cX8_roof 32 = .ok (.bipush 114, 2) := by decide +kernel
theorem dX8_roof_34 : decode cX8_roof 34 = .ok (.invokevirtual 125, 3) := by decide +kernel
theorem dX8_roof_37 : decode cX8_roof 37 = .ok (.invokevirtual 115, 3) := by decide +kernel
theorem dX8_roof_40 : decode cX8_roof 40 = .ok (.aload_n 0, 1) := by decide +kernel
theorem dX8_roof_41 : decode cX8_roof 41 = .ok (.getfield 22, 3) := by decide +kernel
theorem dX8_roof_44 : decode cX8_roof 44 = .ok (.iconst 2, 1) := by decide +kernel
theorem dX8_roof_45 : decode cX8_roof 45 = .ok (.aload_n 0, 1) := by decide +kernel
theorem dX8_roof_46 : decode cX8_roof 46 = .ok (.iconst 1, 1) := by decide +kernel
theorem dX8_roof_47 : decode cX8_roof 47 = .ok (.bipush 40, 2) := by decide +kernel
theorem dX8_roof_49 : decode cX8_roof 49 = .ok (.invokevirtual 128, 3) := by decide +kernel
theorem dX8_roof_52 : decode cX8_roof 52 = .ok (.iastore, 1) := by decide +kernel
theorem dX8_roof_53 : decode cX8_roof 53 = .ok (.aload_n 0, 1) := by decide +kernel
theorem dX8_roof_54 : decode cX8_roof 54 = .ok (.bipush 44, 2) := by decide +kernel
theorem dX8_roof_56 : decode cX8_roof 56 = .ok (.invokevirtual 132, 3) := by decide +kernel
theorem dX8_roof_59 : decode cX8_roof 59 = .ok (.aload_n 0, 1) := by decide +kernel
theorem dX8_roof_60 : decode cX8_roof 60 = .ok (.getfield 22, 3) := by decide +kernel
theorem dX8_roof_63 : decode cX8_roof 63 = .ok (.iconst 3, 1) := by decide +kernel
theorem dX8_roof_64 : decode cX8_roof 64 = .ok (.aload_n 0, 1) := by decide +kernel
theorem dX8_roof_65 : decode cX8_roof 65 = .ok (.iconst 1, 1) := by decide +kernel
theorem dX8_roof_66 : decode cX8_roof 66 = .ok (.bipush 99, 2) := by decide +kernel
theorem dX8_roof_68 : decode cX8_roof 68 = .ok (.invokevirtual 128, 3) := by decide +kernel
theorem dX8_roof_71 : decode cX8_roof 71 = .ok (.iastore, 1) := by decide +kernel
theorem dX8_roof_72 : decode cX8_roof 72 = .ok (.aload_n 0, 1) := by decide +kernel
theorem dX8_roof_73 : decode cX8_roof 73 = .ok (.bipush 59, 2) := by decide +kernel
theorem dX8_roof_75 : decode cX8_roof 75 = .ok (.invokevirtual 132, 3) := by decide +kernel
theorem dX8_roof_78 : decode cX8_roof 78 = .ok (.aload_n 0, 1) := by decide +kernel
theorem dX8_roof_79 : decode cX8_roof 79 = .ok (.bipush 119, 2) := by decide +kernel
theorem dX8_roof_81 : decode cX8_roof 81 = .ok (.invokevirtual 125, 3) := by decide +kernel
theorem dX8_roof_84 : decode cX8_roof 84 = .ok (.ifCond .eq 10, 3) := by decide +kernel
theorem dX8_roof_87 : decode cX8_roof 87 = .ok (.aload_n 0, 1) := by decide +kernel
theorem dX8_roof_88 : decode cX8_roof 88 = .ok (.invokevirtual 138, 3) := by decide +kernel
theorem dX8_roof_91 : decode cX8_roof 91 = .ok (.goto (-13), 3) := by decide +kernel
theorem dX8_roof_94 : decode cX8_roof 94 = .ok (.aload_n 0, 1) := by decide +kernel
theorem dX8_roof_95 : decode cX8_roof 95 = .ok (.invokevirtual 141, 3) := by decide +kernel
theorem dX8_roof_98 : decode cX8_roof 98 = .ok (.ifCond .ne 8, 3) := by decide +kernel
theorem dX8_roof_101 : decode cX8_roof 101 = .ok (.aload_n 0, 1) := by decide +kernel
theorem dX8_roof_102 : decode cX8_roof 102 = .ok (.iconst 1, 1) := by decide +kernel
theorem dX8_roof_103 : decode cX8_roof 103 = .ok (.invokevirtual 108, 3) := by decide +kernel
theorem dX8_roof_106 : decode cX8_roof 106 = .ok (.aload_n 0, 1) := by decide +kernel
theorem dX8_roof_107 : decode cX8_roof 107 = .ok (.invokevirtual 141, 3) := by decide +kernel
theorem dX8_roof_110 : decode cX8_roof 110 = .ok (.ifCond .eq 10, 3) := by decide +kernel
theorem dX8_roof_113 : decode cX8_roof 113 = .ok (.aload_n 0, 1) := by decide +kernel
theorem dX8_roof_114 : decode cX8_roof 114 = .ok (.invokevirtual 145, 3) := by decide +kernel
theorem dX8_roof_117 : decode cX8_roof 117 = .ok (.goto (-11), 3) := by decide +kernel
theorem dX8_roof_120 : decode cX8_roof 120 = .ok (.aload_n 0, 1) := by decide +kernel
theorem dX8_roof_121 : decode cX8_roof 121 = .ok (.invokevirtual 148, 3) := by decide +kernel
theorem dX8_roof_124 : decode cX8_roof 124 = .ok (.ifCond .eq 11, 3) := by decide +kernel
theorem dX8_roof_127 : decode cX8_roof 127 = .ok (.ldc 151, 2) := by decide +kernel
theorem dX8_roof_129 : decode cX8_roof 129 = .ok (.aload_n 0, 1) := by decide +kernel
theorem dX8_roof_130 : decode cX8_roof 130 = .ok (.getfield 87, 3) := by decide +kernel
theorem dX8_roof_133 : decode cX8_roof 133 = .ok (.isub, 1) := by decide +kernel
theorem dX8_roof_134 : decode cX8_roof 134 = .ok (.ireturn, 1) := by decide +kernel
theorem dX8_roof_135 : decode cX8_roof 135 = .ok (.aload_n 0, 1) := by decide +kernel
theorem dX8_roof_136 : decode cX8_roof 136 = .ok (.iconst 0, 1) := by decide +kernel
theorem dX8_roof_137 : decode cX8_roof 137 = .ok (.putfield 152, 3) := by decide +kernel
theorem dX8_roof_140 : decode cX8_roof 140 = .ok (.iconst 0, 1) := by decide +kernel
theorem dX8_roof_141 : decode cX8_roof 141 = .ok (.istore_n 1, 1) := by decide +kernel
theorem dX8_roof_142 : decode cX8_roof 142 = .ok (.iload_n 1, 1) := by decide +kernel
theorem dX8_roof_143 : decode cX8_roof 143 = .ok (.bipush 53, 2) := by decide +kernel
theorem dX8_roof_145 : decode cX8_roof 145 = .ok (.if_icmp .ge 21, 3) := by decide +kernel
theorem dX8_roof_148 : decode cX8_roof 148 = .ok (.aload_n 0, 1) := by decide +kernel
theorem dX8_roof_149 : decode cX8_roof 149 = .ok (.getfield 19, 3) := by decide +kernel
theorem dX8_roof_152 : decode cX8_roof 152 = .ok (.iload_n 1, 1) := by decide +kernel
theorem dX8_roof_153 : decode cX8_roof 153 = .ok (.aload_n 0, 1) := by decide +kernel
theorem dX8_roof_154 : decode cX8_roof 154 = .ok (.getfield 22, 3) := by decide +kernel
theorem dX8_roof_157 : decode cX8_roof 157 = .ok (.iload_n 1, 1) := by decide +kernel
theorem dX8_roof_158 : decode cX8_roof 158 = .ok (.iaload, 1) := by decide +kernel
theorem dX8_roof_159 : decode cX8_roof 159 = .ok (.iastore, 1) := by decide +kernel
theorem dX8_roof_160 : decode cX8_roof 160 = .ok (.iinc 1 1, 3) := by decide +kernel
theorem dX8_roof_163 : decode cX8_roof 163 = .ok (.goto (-21), 3) := by decide +kernel
theorem dX8_roof_166 : decode cX8_roof 166 = .ok (.aload_n 0, 1) := by decide +kernel
theorem dX8_roof_167 : decode cX8_roof 167 = .ok (.getfield 19, 3) := by decide +kernel
theorem dX8_roof_170 : decode cX8_roof 170 = .ok (.iconst 0, 1) := by decide +kernel
theorem dX8_roof_171 : decode cX8_roof 171 = .ok (.iaload, 1) := by decide +kernel
theorem dX8_roof_172 : decode cX8_roof 172 = .ok (.ireturn, 1) := by decide +kernel
theorem dX8_isThere_0 : decode cX8_isThere 0 = .ok (.aload_n 0, 1) := by decide +kernel
theorem dX8_isThere_1 : decode cX8_isThere 1 = .ok (.getfield 19, 3) := by decide +kernel
theorem dX8_isThere_4 : decode cX8_isThere 4 = .ok (.iconst 0, 1) := by decide +kernel
theorem dX8_isThere_5 : decode cX8_isThere 5 = .ok (.iaload, 1) := by decide +kernel
theorem dX8_isThere_6 : decode cX8_isThere 6 = .ok (.ifCond .le 7, 3) := by decide +kernel
theorem dX8_isThere_9 : decode cX8_isThere 9 = .ok (.iconst 1, 1) := by decide +kernel
theorem dX8_isThere_10 : decode cX8_isThere 10 = .ok (.goto 4, 3) := by decide +kernel
theorem dX8_isThere_13 : decode cX8_isThere 13 = .ok (.iconst 0, 1) := by decide +kernel
theorem dX8_isThere_14 : decode cX8_isThere 14 = .ok (.ireturn, 1) := by decide +kernel
theorem dX8_isPaper_0 : decode cX8_isPaper 0 = .ok (.iload_n 1, 1) := by decide +kernel
theorem dX8_isPaper_1 : decode cX8_isPaper 1 = .ok (.i2l, 1) := by decide +kernel
theorem dX8_isPaper_2 : decode cX8_isPaper 2 = .ok (.lconst 0, 1) := by decide +kernel
theorem dX8_isPaper_3 : decode cX8_isPaper 3 = .ok (.aload_n 0, 1) := by decide +kernel
theorem dX8_isPaper_4 : decode cX8_isPaper 4 = .ok (.getfield 19, 3) := by decide +kernel
theorem dX8_isPaper_7 : decode cX8_isPaper 7 = .ok (.iconst 0, 1) := by decide +kernel
theorem dX8_isPaper_8 : decode cX8_isPaper 8 = .ok (.iaload, 1) := by decide +kernel
theorem dX8_isPaper_9 : decode cX8_isPaper 9 = .ok (.iconst 1, 1) := by decide +kernel
theorem dX8_isPaper_10 : decode cX8_isPaper 10 = .ok (.isub, 1) := by decide +kernel
theorem dX8_isPaper_11 : decode cX8_isPaper 11 = .ok (.i2l, 1) := by decide +kernel
theorem dX8_isPaper_12 : decode cX8_isPaper 12 = .ok (.invokestatic 60, 3) := by decide +kernel
theorem dX8_isPaper_15 : decode cX8_isPaper 15 = .ok (.ireturn, 1) := by decide +kernel
theorem dX8_bits_0 : decode cX8_bits 0 = .ok (.iconst 0, 1) := by decide +kernel
theorem dX8_bits_1 : decode cX8_bits 1 = .ok (.istore_n 1, 1) := by decide +kernel
theorem dX8_bits_2 : decode cX8_bits 2 = .ok (.iconst 0, 1) := by decide +kernel
theorem dX8_bits_3 : decode cX8_bits 3 = .ok (.istore_n 2, 1) := by decide +kernel
theorem dX8_bits_4 : decode cX8_bits 4 = .ok (.iload_n 2, 1) := by decide +kernel
theorem dX8_bits_5 : decode cX8_bits 5 = .ok (.bipush 6, 2) := by decide +kernel
theorem dX8_bits_7 : decode cX8_bits 7 = .ok (.if_icmp .ge 17, 3) := by decide +kernel
theorem dX8_bits_10 : decode cX8_bits 10 = .ok (.iload_n 1, 1) := by decide +kernel
theorem dX8_bits_11 : decode cX8_bits 11 = .ok (.iload_n 0, 1) := by decide +kernel
theorem dX8_bits_12 : decode cX8_bits 12 = .ok (.iload_n 2, 1) := by decide +kernel
theorem dX8_bits_13 : decode cX8_bits 13 = .ok (.ishr, 1) := by decide +kernel
theorem dX8_bits_14 : decode cX8_bits 14 = .ok (.iconst 1, 1) := by decide +kernel
theorem dX8_bits_15 : decode cX8_bits 15 = .ok (.iand, 1) := by decide +kernel
theorem dX8_bits_16 : decode cX8_bits 16 = .ok (.iadd, 1) := by decide +kernel
theorem dX8_bits_17 : decode cX8_bits 17 = .ok (.istore_n 1, 1) := by decide +kernel
theorem dX8_bits_18 : decode cX8_bits 18 = .ok (.iinc 2 1, 3) := by decide +kernel
theorem dX8_bits_21 : decode cX8_bits 21 = .ok (.goto (-17), 3) := by decide +kernel
theorem dX8_bits_24 : decode cX8_bits 24 = .ok (.iload_n 1, 1) := by decide +kernel
theorem dX8_bits_25 : decode cX8_bits 25 = .ok (.ireturn, 1) := by decide +kernel
theorem dX8_has_0 : decode cX8_has 0 = .ok (.iload_n 0, 1) := by decide +kernel
theorem dX8_has_1 : decode cX8_has 1 = .ok (.iload_n 1, 1) := by decide +kernel
theorem dX8_has_2 : decode cX8_has 2 = .ok (.ishr, 1) := by decide +kernel
theorem dX8_has_3 : decode cX8_has 3 = .ok (.iconst 1, 1) := by decide +kernel
theorem dX8_has_4 : decode cX8_has 4 = .ok (.iand, 1) := by decide +kernel
theorem dX8_has_5 : decode cX8_has 5 = .ok (.iconst 1, 1) := by decide +kernel
theorem dX8_has_6 : decode cX8_has 6 = .ok (.if_icmp .ne 7, 3) := by decide +kernel
theorem dX8_has_9 : decode cX8_has 9 = .ok (.iconst 1, 1) := by decide +kernel
theorem dX8_has_10 : decode cX8_has 10 = .ok (.goto 4, 3) := by decide +kernel
theorem dX8_has_13 : decode cX8_has 13 = .ok (.iconst 0, 1) := by decide +kernel
theorem dX8_has_14 : decode cX8_has 14 = .ok (.ireturn, 1) := by decide +kernel
theorem dX8_of_0 : decode cX8_of 0 = .ok (.aload_n 0, 1) := by decide +kernel
theorem dX8_of_1 : decode cX8_of 1 = .ok (.bipush 11, 2) := by decide +kernel
theorem dX8_of_3 : decode cX8_of 3 = .ok (.bipush 7, 2) := by decide +kernel
theorem dX8_of_5 : decode cX8_of 5 = .ok (.iload_n 1, 1) := by decide +kernel
theorem dX8_of_6 : decode cX8_of 6 = .ok (.imul, 1) := by decide +kernel
theorem dX8_of_7 : decode cX8_of 7 = .ok (.iadd, 1) := by decide +kernel
theorem dX8_of_8 : decode cX8_of 8 = .ok (.iload_n 2, 1) := by decide +kernel
theorem dX8_of_9 : decode cX8_of 9 = .ok (.iadd, 1) := by decide +kernel
theorem dX8_of_10 : decode cX8_of 10 = .ok (.iaload, 1) := by decide +kernel
theorem dX8_of_11 : decode cX8_of 11 = .ok (.ireturn, 1) := by decide +kernel
theorem dX8_be_0 : decode cX8_be 0 = .ok (.aload_n 0, 1) := by decide +kernel
theorem dX8_be_1 : decode cX8_be 1 = .ok (.bipush 11, 2) := by decide +kernel
theorem dX8_be_3 : decode cX8_be 3 = .ok (.bipush 7, 2) := by decide +kernel
theorem dX8_be_5 : decode cX8_be 5 = .ok (.iload_n 1, 1) := by decide +kernel
theorem dX8_be_6 : decode cX8_be 6 = .ok (.imul, 1) := by decide +kernel
theorem dX8_be_7 : decode cX8_be 7 = .ok (.iadd, 1) := by decide +kernel
theorem dX8_be_8 : decode cX8_be 8 = .ok (.iload_n 2, 1) := by decide +kernel
theorem dX8_be_9 : decode cX8_be 9 = .ok (.iadd, 1) := by decide +kernel
theorem dX8_be_10 : decode cX8_be 10 = .ok (.iload_n 3, 1) := by decide +kernel
theorem dX8_be_11 : decode cX8_be 11 = .ok (.iastore, 1) := by decide +kernel
theorem dX8_be_12 : decode cX8_be 12 = .ok (.return_, 1) := by decide +kernel
theorem dX8_isUp_0 : decode cX8_isUp 0 = .ok (.aload_n 0, 1) := by decide +kernel
theorem dX8_isUp_1 : decode cX8_isUp 1 = .ok (.iload_n 1, 1) := by decide +kernel
theorem dX8_isUp_2 : decode cX8_isUp 2 = .ok (.iconst 3, 1) := by decide +kernel
theorem dX8_isUp_3 : decode cX8_isUp 3 = .ok (.invokestatic 155, 3) := by decide +kernel
theorem dX8_isUp_6 : decode cX8_isUp 6 = .ok (.iconst 1, 1) := by decide +kernel
theorem dX8_isUp_7 : decode cX8_isUp 7 = .ok (.if_icmp .ne 7, 3) := by decide +kernel
theorem dX8_isUp_10 : decode cX8_isUp 10 = .ok (.iconst 1, 1) := by decide +kernel
theorem dX8_isUp_11 : decode cX8_isUp 11 = .ok (.goto 4, 3) := by decide +kernel
theorem dX8_isUp_14 : decode cX8_isUp 14 = .ok (.iconst 0, 1) := by decide +kernel
theorem dX8_isUp_15 : decode cX8_isUp 15 = .ok (.ireturn, 1) := by decide +kernel
theorem dX8_forceOf_0 : decode cX8_forceOf 0 = .ok (.aload_n 0, 1) := by decide +kernel
theorem dX8_forceOf_1 : decode cX8_forceOf 1 = .ok (.iconst 1, 1) := by decide +kernel
theorem dX8_forceOf_2 : decode cX8_forceOf 2 = .ok (.iaload, 1) := by decide +kernel
theorem dX8_forceOf_3 : decode cX8_forceOf 3 = .ok (.ifCond .ne 7, 3) := by decide +kernel
theorem dX8_forceOf_6 : decode cX8_forceOf 6 = .ok (.iconst 0, 1) := by decide +kernel
theorem dX8_forceOf_7 : decode cX8_forceOf 7 = .ok (.goto 12, 3) := by decide +kernel
theorem dX8_forceOf_10 : decode cX8_forceOf 10 = .ok (.aload_n 0, 1) := by decide +kernel
theorem dX8_forceOf_11 : decode cX8_forceOf 11 = .ok (.iconst 5, 1) := by decide +kernel
theorem dX8_forceOf_12 : decode cX8_forceOf 12 = .ok (.iload_n 1, 1) := by decide +kernel
theorem dX8_forceOf_13 : decode cX8_forceOf 13 = .ok (.aload_n 0, 1) := by decide +kernel
theorem dX8_forceOf_14 : decode cX8_forceOf 14 = .ok (.iconst 1, 1) := by decide +kernel
theorem dX8_forceOf_15 : decode cX8_forceOf 15 = .ok (.iaload, 1) := by decide +kernel
theorem dX8_forceOf_16 : decode cX8_forceOf 16 = .ok (.irem, 1) := by decide +kernel
theorem dX8_forceOf_17 : decode cX8_forceOf 17 = .ok (.iadd, 1) := by decide +kernel
theorem dX8_forceOf_18 : decode cX8_forceOf 18 = .ok (.iaload, 1) := by decide +kernel
theorem dX8_forceOf_19 : decode cX8_forceOf 19 = .ok (.ireturn, 1) := by decide +kernel
theorem dX8_isOtherUp_0 : decode cX8_isOtherUp 0 = .ok (.iconst 0, 1) := by decide +kernel
theorem dX8_isOtherUp_1 : decode cX8_isOtherUp 1 = .ok (.istore_n 2, 1) := by decide +kernel
theorem dX8_isOtherUp_2 : decode cX8_isOtherUp 2 = .ok (.iconst 0, 1) := by decide +kernel
theorem dX8_isOtherUp_3 : decode cX8_isOtherUp 3 = .ok (.istore_n 3, 1) := by decide +kernel
theorem dX8_isOtherUp_4 : decode cX8_isOtherUp 4 = .ok (.iload_n 3, 1) := by decide +kernel
theorem dX8_isOtherUp_5 : decode cX8_isOtherUp 5 = .ok (.aload_n 0, 1) := by decide +kernel
theorem dX8_isOtherUp_6 : decode cX8_isOtherUp 6 = .ok (.iconst 0, 1) := by decide +kernel
theorem dX8_isOtherUp_7 : decode cX8_isOtherUp 7 = .ok (.iaload, 1) := by decide +kernel
theorem dX8_isOtherUp_8 : decode cX8_isOtherUp 8 = .ok (.if_icmp .ge 42, 3) := by decide +kernel
theorem dX8_isOtherUp_11 : decode cX8_isOtherUp 11 = .ok (.iload_n 2, 1) := by decide +kernel
theorem dX8_isOtherUp_12 : decode cX8_isOtherUp 12 = .ok (.ifCond .ne 26, 3) := by decide +kernel
theorem dX8_isOtherUp_15 : decode cX8_isOtherUp 15 = .ok (.iload_n 3, 1) := by decide +kernel
theorem dX8_isOtherUp_16 : decode cX8_isOtherUp 16 = .ok (.iload_n 1, 1) := by decide +kernel
theorem dX8_isOtherUp_17 : decode cX8_isOtherUp 17 = .ok (.if_icmp .eq 25, 3) := by decide +kernel
theorem dX8_isOtherUp_20 : decode cX8_isOtherUp 20 = .ok (.aload_n 0, 1) := by decide +kernel
theorem dX8_isOtherUp_21 : decode cX8_isOtherUp 21 = .ok (.iload_n 3, 1) := by decide +kernel
theorem dX8_isOtherUp_22 : decode cX8_isOtherUp 22 = .ok (.invokestatic 159, 3) := by decide +kernel
theorem dX8_isOtherUp_25 : decode cX8_isOtherUp 25 = .ok (.ifCond .eq 17, 3) := by decide +kernel
theorem dX8_isOtherUp_28 : decode cX8_isOtherUp 28 = .ok (.aload_n 0, 1) := by decide +kernel
theorem dX8_isOtherUp_29 : decode cX8_isOtherUp 29 = .ok (.iload_n 3, 1) := by decide +kernel
theorem dX8_isOtherUp_30 : decode cX8_isOtherUp 30 = .ok (.iconst 0, 1) := by decide +kernel
theorem dX8_isOtherUp_31 : decode cX8_isOtherUp 31 = .ok (.invokestatic 155, 3) := by decide +kernel
theorem dX8_isOtherUp_34 : decode cX8_isOtherUp 34 = .ok (.iconst 3, 1) := by decide +kernel
theorem dX8_isOtherUp_35 : decode cX8_isOtherUp 35 = .ok (.if_icmp .ne 7, 3) := by decide +kernel
theorem dX8_isOtherUp_38 : decode cX8_isOtherUp 38 = .ok (.iconst 1, 1) := by decide +kernel
theorem dX8_isOtherUp_39 : decode cX8_isOtherUp 39 = .ok (.goto 4, 3) := by decide +kernel
theorem dX8_isOtherUp_42 : decode cX8_isOtherUp 42 = .ok (.iconst 0, 1) := by decide +kernel
theorem dX8_isOtherUp_43 : decode cX8_isOtherUp 43 = .ok (.istore_n 2, 1) := by decide +kernel
theorem dX8_isOtherUp_44 : decode cX8_isOtherUp 44 = .ok (.iinc 3 1, 3) := by decide +kernel
theorem dX8_isOtherUp_47 : decode cX8_isOtherUp 47 = .ok (.goto (-43), 3) := by decide +kernel
theorem dX8_isOtherUp_50 : decode cX8_isOtherUp 50 = .ok (.iload_n 2, 1) := by decide +kernel
theorem dX8_isOtherUp_51 : decode cX8_isOtherUp 51 = .ok (.ireturn, 1) := by decide +kernel
theorem dX8_riseOf_0 : decode cX8_riseOf 0 = .ok (.aload_n 0, 1) := by decide +kernel
theorem dX8_riseOf_1 : decode cX8_riseOf 1 = .ok (.iload_n 1, 1) := by decide +kernel
theorem dX8_riseOf_2 : decode cX8_riseOf 2 = .ok (.iconst 1, 1) := by decide +kernel
theorem dX8_riseOf_3 : decode cX8_riseOf 3 = .ok (.invokestatic 155, 3) := by decide +kernel
theorem dX8_riseOf_6 : decode cX8_riseOf 6 = .ok (.iload_n 2, 1) := by decide +kernel
theorem dX8_riseOf_7 : decode cX8_riseOf 7 = .ok (.imul, 1) := by decide +kernel
theorem dX8_riseOf_8 : decode cX8_riseOf 8 = .ok (.istore_n 3, 1) := by decide +kernel
theorem dX8_riseOf_9 : decode cX8_riseOf 9 = .ok (.aload_n 0, 1) := by decide +kernel
theorem dX8_riseOf_10 : decode cX8_riseOf 10 = .ok (.iload_n 1, 1) := by decide +kernel
theorem dX8_riseOf_11 : decode cX8_riseOf 11 = .ok (.iconst 4, 1) := by decide +kernel
theorem dX8_riseOf_12 : decode cX8_riseOf 12 = .ok (.invokestatic 155, 3) := by decide +kernel
theorem dX8_riseOf_15 : decode cX8_riseOf 15 = .ok (.istore 4, 2) := by decide +kernel
theorem dX8_riseOf_17 : decode cX8_riseOf 17 = .ok (.iconst 0, 1) := by decide +kernel
theorem dX8_riseOf_18 : decode cX8_riseOf 18 = .ok (.istore 5, 2) := by decide +kernel
theorem dX8_riseOf_20 : decode cX8_riseOf 20 = .ok (.aload_n 0, 1) := by decide +kernel
theorem dX8_riseOf_21 : decode cX8_riseOf 21 = .ok (.iload_n 1, 1) := by decide +kernel
theorem dX8_riseOf_22 : decode cX8_riseOf 22 = .ok (.iconst 0, 1) := by decide +kernel
theorem dX8_riseOf_23 : decode cX8_riseOf 23 = .ok (.invokestatic 155, 3) := by decide +kernel
theorem dX8_riseOf_26 : decode cX8_riseOf 26 = .ok (.tableswitch 71 1 3 #[26, 32, 51], 26) := by decide +kernel
theorem dX8_riseOf_52 : decode cX8_riseOf 52 = .ok (.iload_n 3, 1) := by decide +kernel
theorem dX8_riseOf_53 : decode cX8_riseOf 53 = .ok (.istore 5, 2) := by decide +kernel
theorem dX8_riseOf_55 : decode cX8_riseOf 55 = .ok (.goto 47, 3) := by decide +kernel
theorem dX8_riseOf_58 : decode cX8_riseOf 58 = .ok (.iload 4, 2) := by decide +kernel
theorem dX8_riseOf_60 : decode cX8_riseOf 60 = .ok (.bipush 20, 2) := by decide +kernel
theorem dX8_riseOf_62 : decode cX8_riseOf 62 = .ok (.if_icmp .lt 7, 3) := by decide +kernel
theorem dX8_riseOf_65 : decode cX8_riseOf 65 = .ok (.iload_n 3, 1) := by decide +kernel
theorem dX8_riseOf_66 : decode cX8_riseOf 66 = .ok (.goto 6, 3) := by decide +kernel
theorem dX8_riseOf_69 : decode cX8_riseOf 69 = .ok (.iload_n 3, 1) := by decide +kernel
theorem dX8_riseOf_70 : decode cX8_riseOf 70 = .ok (.iconst 2, 1) := by decide +kernel
theorem dX8_riseOf_71 : decode cX8_riseOf 71 = .ok (.idiv, 1) := by decide +kernel
theorem dX8_riseOf_72 : decode cX8_riseOf 72 = .ok (.istore 5, 2) := by decide +kernel
theorem dX8_riseOf_74 : decode cX8_riseOf 74 = .ok (.goto 28, 3) := by decide +kernel
theorem dX8_riseOf_77 : decode cX8_riseOf 77 = .ok (.aload_n 0, 1) := by decide +kernel
theorem dX8_riseOf_78 : decode cX8_riseOf 78 = .ok (.iload_n 1, 1) := by decide +kernel
theorem dX8_riseOf_79 : decode cX8_riseOf 79 = .ok (.invokestatic 163, 3) := by decide +kernel
theorem dX8_riseOf_82 : decode cX8_riseOf 82 = .ok (.ifCond .eq 9, 3) := by decide +kernel
theorem dX8_riseOf_85 : decode cX8_riseOf 85 = .ok (.iconst 2, 1) := by decide +kernel
theorem dX8_riseOf_86 : decode cX8_riseOf 86 = .ok (.iload_n 3, 1) := by decide +kernel
theorem dX8_riseOf_87 : decode cX8_riseOf 87 = .ok (.imul, 1) := by decide +kernel
theorem dX8_riseOf_88 : decode cX8_riseOf 88 = .ok (.goto 4, 3) := by decide +kernel
theorem dX8_riseOf_91 : decode cX8_riseOf 91 = .ok (.iload_n 3, 1) := by decide +kernel
theorem dX8_riseOf_92 : decode cX8_riseOf 92 = .ok (.istore 5, 2) := by decide +kernel
theorem dX8_riseOf_94 : decode cX8_riseOf 94 = .ok (.goto 8, 3) := by decide +kernel
theorem dX8_riseOf_97 : decode cX8_riseOf 97 = .ok (.iconst 4, 1) := by decide +kernel
theorem dX8_riseOf_98 : decode cX8_riseOf 98 = .ok (.iload_n 2, 1) := by decide +kernel
theorem dX8_riseOf_99 : decode cX8_riseOf 99 = .ok (.imul, 1) := by decide +kernel
theorem dX8_riseOf_100 : decode cX8_riseOf 100 = .ok (.istore 5, 2) := by decide +kernel
theorem dX8_riseOf_102 : decode cX8_riseOf 102 = .ok (.aload_n 0, 1) := by decide +kernel
theorem dX8_riseOf_103 : decode cX8_riseOf 103 = .ok (.iload_n 1, 1) := by decide +kernel
theorem dX8_riseOf_104 : decode cX8_riseOf 104 = .ok (.iconst 0, 1) := by decide +kernel
theorem dX8_riseOf_105 : decode cX8_riseOf 105 = .ok (.invokestatic 155, 3) := by decide +kernel
theorem dX8_riseOf_108 : decode cX8_riseOf 108 = .ok (.iconst 5, 1) := by decide +kernel
theorem dX8_riseOf_109 : decode cX8_riseOf 109 = .ok (.if_icmp .ne 21, 3) := by decide +kernel
theorem dX8_riseOf_112 : decode cX8_riseOf 112 = .ok (.iload 4, 2) := by decide +kernel
theorem dX8_riseOf_114 : decode cX8_riseOf 114 = .ok (.bipush 30, 2) := by decide +kernel
theorem dX8_riseOf_116 : decode cX8_riseOf 116 = .ok (.if_icmp .lt 14, 3) := by decide +kernel
theorem dX8_riseOf_119 : decode cX8_riseOf 119 = .ok (.iload 5, 2) := by decide +kernel
theorem dX8_riseOf_121 : decode cX8_riseOf 121 = .ok (.bipush 30, 2) := by decide +kernel
theorem dX8_riseOf_123 : decode cX8_riseOf 123 = .ok (.if_icmp .ge 7, 3) := by decide +kernel
theorem dX8_riseOf_126 : decode cX8_riseOf 126 = .ok (.bipush 30, 2) := by decide +kernel
theorem dX8_riseOf_128 : decode cX8_riseOf 128 = .ok (.istore 5, 2) := by decide +kernel
theorem dX8_riseOf_130 : decode cX8_riseOf 130 = .ok (.iload 5, 2) := by decide +kernel
theorem dX8_riseOf_132 : decode cX8_riseOf 132 = .ok (.aload_n 0, 1) := by decide +kernel
theorem dX8_riseOf_133 : decode cX8_riseOf 133 = .ok (.iload_n 1, 1) := by decide +kernel
theorem dX8_riseOf_134 : decode cX8_riseOf 134 = .ok (.iconst 2, 1) := by decide +kernel
theorem dX8_riseOf_135 : decode cX8_riseOf 135 = .ok (.invokestatic 155, 3) := by decide +kernel
theorem dX8_riseOf_138 : decode cX8_riseOf 138 = .ok (.isub, 1) := by decide +kernel
theorem dX8_riseOf_139 : decode cX8_riseOf 139 = .ok (.ireturn, 1) := by decide +kernel
theorem dX8_doesSnap_0 : decode cX8_doesSnap 0 = .ok (.iload_n 2, 1) := by decide +kernel
theorem dX8_doesSnap_1 : decode cX8_doesSnap 1 = .ok (.ifCond .le 28, 3) := by decide +kernel
theorem dX8_doesSnap_4 : decode cX8_doesSnap 4 = .ok (.aload_n 0, 1) := by decide +kernel
theorem dX8_doesSnap_5 : decode cX8_doesSnap 5 = .ok (.iload_n 1, 1) := by decide +kernel
theorem dX8_doesSnap_6 : decode cX8_doesSnap 6 = .ok (.iconst 4, 1) := by decide +kernel
theorem dX8_doesSnap_7 : decode cX8_doesSnap 7 = .ok (.invokestatic 155, 3) := by decide +kernel
theorem dX8_doesSnap_10 : decode cX8_doesSnap 10 = .ok (.iload_n 2, 1) := by decide +kernel
theorem dX8_doesSnap_11 : decode cX8_doesSnap 11 = .ok (.iadd, 1) := by decide +kernel
theorem dX8_doesSnap_12 : decode cX8_doesSnap 12 = .ok (.aload_n 0, 1) := by decide +kernel
theorem dX8_doesSnap_13 : decode cX8_doesSnap 13 = .ok (.iload_n 1, 1) := by decide +kernel
theorem dX8_doesSnap_14 : decode cX8_doesSnap 14 = .ok (.iconst 5, 1) := by decide +kernel
theorem dX8_doesSnap_15 : decode cX8_doesSnap 15 = .ok (.invokestatic 155, 3) := by decide +kernel
theorem dX8_doesSnap_18 : decode cX8_doesSnap 18 = .ok (.aload_n 0, 1) := by decide +kernel
theorem dX8_doesSnap_19 : decode cX8_doesSnap 19 = .ok (.iconst 3, 1) := by decide +kernel
theorem dX8_doesSnap_20 : decode cX8_doesSnap 20 = .ok (.iaload, 1) := by decide +kernel
theorem dX8_doesSnap_21 : decode cX8_doesSnap 21 = .ok (.iadd, 1) := by decide +kernel
theorem dX8_doesSnap_22 : decode cX8_doesSnap 22 = .ok (.if_icmp .le 7, 3) := by decide +kernel
theorem dX8_doesSnap_25 : decode cX8_doesSnap 25 = .ok (.iconst 1, 1) := by decide +kernel
theorem dX8_doesSnap_26 : decode cX8_doesSnap 26 = .ok (.goto 4, 3) := by decide +kernel
theorem dX8_doesSnap_29 : decode cX8_doesSnap 29 = .ok (.iconst 0, 1) := by decide +kernel
theorem dX8_doesSnap_30 : decode cX8_doesSnap 30 = .ok (.ireturn, 1) := by decide +kernel
theorem dX8_moves_0 : decode cX8_moves 0 = .ok (.aload_n 0, 1) := by decide +kernel
theorem dX8_moves_1 : decode cX8_moves 1 = .ok (.iload_n 1, 1) := by decide +kernel
theorem dX8_moves_2 : decode cX8_moves 2 = .ok (.iconst 4, 1) := by decide +kernel
theorem dX8_moves_3 : decode cX8_moves 3 = .ok (.invokestatic 155, 3) := by decide +kernel
theorem dX8_moves_6 : decode cX8_moves 6 = .ok (.iload_n 2, 1) := by decide +kernel
theorem dX8_moves_7 : decode cX8_moves 7 = .ok (.iadd, 1) := by decide +kernel
theorem dX8_moves_8 : decode cX8_moves 8 = .ok (.istore 4, 2) := by decide +kernel
theorem dX8_moves_10 : decode cX8_moves 10 = .ok (.aload_n 0, 1) := by decide +kernel
theorem dX8_moves_11 : decode cX8_moves 11 = .ok (.iload_n 1, 1) := by decide +kernel
theorem dX8_moves_12 : decode cX8_moves 12 = .ok (.iconst 5, 1) := by decide +kernel
theorem dX8_moves_13 : decode cX8_moves 13 = .ok (.invokestatic 155, 3) := by decide +kernel
theorem dX8_moves_16 : decode cX8_moves 16 = .ok (.istore 5, 2) := by decide +kernel
theorem dX8_moves_18 : decode cX8_moves 18 = .ok (.aload_n 0, 1) := by decide +kernel
theorem dX8_moves_19 : decode cX8_moves 19 = .ok (.iload_n 1, 1) := by decide +kernel
theorem dX8_moves_20 : decode cX8_moves 20 = .ok (.iload_n 2, 1) := by decide +kernel
theorem dX8_moves_21 : decode cX8_moves 21 = .ok (.invokestatic 166, 3) := by decide +kernel
theorem dX8_moves_24 : decode cX8_moves 24 = .ok (.ifCond .eq 43, 3) := by decide +kernel
theorem dX8_moves_27 : decode cX8_moves 27 = .ok (.aload_n 0, 1) := by decide +kernel
theorem dX8_moves_28 : decode cX8_moves 28 = .ok (.iload_n 1, 1) := by decide +kernel
theorem dX8_moves_29 : decode cX8_moves 29 = .ok (.iconst 3, 1) := by decide +kernel
theorem dX8_moves_30 : decode cX8_moves 30 = .ok (.iconst 2, 1) := by decide +kernel
theorem dX8_moves_31 : decode cX8_moves 31 = .ok (.invokestatic 170, 3) := by decide +kernel
theorem dX8_moves_34 : decode cX8_moves 34 = .ok (.aload_n 0, 1) := by decide +kernel
theorem dX8_moves_35 : decode cX8_moves 35 = .ok (.iload_n 1, 1) := by decide +kernel
theorem dX8_moves_36 : decode cX8_moves 36 = .ok (.bipush 6, 2) := by decide +kernel
theorem dX8_moves_38 : decode cX8_moves 38 = .ok (.iload_n 1, 1) := by decide +kernel
theorem dX8_moves_39 : decode cX8_moves 39 = .ok (.iload 5, 2) := by decide +kernel
theorem dX8_moves_41 : decode cX8_moves 41 = .ok (.iadd, 1) := by decide +kernel
theorem dX8_moves_42 : decode cX8_moves 42 = .ok (.iload_n 3, 1) := by decide +kernel
theorem dX8_moves_43 : decode cX8_moves 43 = .ok (.iadd, 1) := by decide +kernel
theorem dX8_moves_44 : decode cX8_moves 44 = .ok (.bipush 16, 2) := by decide +kernel
theorem dX8_moves_46 : decode cX8_moves 46 = .ok (.irem, 1) := by decide +kernel
theorem dX8_moves_47 : decode cX8_moves 47 = .ok (.invokestatic 170, 3) := by decide +kernel
theorem dX8_moves_50 : decode cX8_moves 50 = .ok (.aload_n 0, 1) := by decide +kernel
theorem dX8_moves_51 : decode cX8_moves 51 = .ok (.iload_n 1, 1) := by decide +kernel
theorem dX8_moves_52 : decode cX8_moves 52 = .ok (.iconst 4, 1) := by decide +kernel
theorem dX8_moves_53 : decode cX8_moves 53 = .ok (.iconst 0, 1) := by decide +kernel
theorem dX8_moves_54 : decode cX8_moves 54 = .ok (.invokestatic 170, 3) := by decide +kernel
theorem dX8_moves_57 : decode cX8_moves 57 = .ok (.aload_n 0, 1) := by decide +kernel
theorem dX8_moves_58 : decode cX8_moves 58 = .ok (.iload_n 1, 1) := by decide +kernel
theorem dX8_moves_59 : decode cX8_moves 59 = .ok (.iconst 5, 1) := by decide +kernel
theorem dX8_moves_60 : decode cX8_moves 60 = .ok (.iconst 0, 1) := by decide +kernel
theorem dX8_moves_61 : decode cX8_moves 61 = .ok (.invokestatic 170, 3) := by decide +kernel
theorem dX8_moves_64 : decode cX8_moves 64 = .ok (.goto 56, 3) := by decide +kernel
theorem dX8_moves_67 : decode cX8_moves 67 = .ok (.iload_n 2, 1) := by decide +kernel
theorem dX8_moves_68 : decode cX8_moves 68 = .ok (.ifCond .ge 32, 3) := by decide +kernel
theorem dX8_moves_71 : decode cX8_moves 71 = .ok (.iload 4, 2) := by decide +kernel
theorem dX8_moves_73 : decode cX8_moves 73 = .ok (.ifCond .gt 27, 3) := by decide +kernel
theorem dX8_moves_76 : decode cX8_moves 76 = .ok (.aload_n 0, 1) := by decide +kernel
theorem dX8_moves_77 : decode cX8_moves 77 = .ok (.iload_n 1, 1) := by decide +kernel
theorem dX8_moves_78 : decode cX8_moves 78 = .ok (.iconst 3, 1) := by decide +kernel
theorem dX8_moves_79 : decode cX8_moves 79 = .ok (.iconst 0, 1) := by decide +kernel
theorem dX8_moves_80 : decode cX8_moves 80 = .ok (.invokestatic 170, 3) := by decide +kernel
theorem dX8_moves_83 : decode cX8_moves 83 = .ok (.aload_n 0, 1) := by decide +kernel
theorem dX8_moves_84 : decode cX8_moves 84 = .ok (.iload_n 1, 1) := by decide +kernel
theorem dX8_moves_85 : decode cX8_moves 85 = .ok (.iconst 4, 1) := by decide +kernel
theorem dX8_moves_86 : decode cX8_moves 86 = .ok (.iconst 0, 1) := by decide +kernel
theorem dX8_moves_87 : decode cX8_moves 87 = .ok (.invokestatic 170, 3) := by decide +kernel
theorem dX8_moves_90 : decode cX8_moves 90 = .ok (.aload_n 0, 1) := by decide +kernel
theorem dX8_moves_91 : decode cX8_moves 91 = .ok (.iload_n 1, 1) := by decide +kernel
theorem dX8_moves_92 : decode cX8_moves 92 = .ok (.iconst 5, 1) := by decide +kernel
theorem dX8_moves_93 : decode cX8_moves 93 = .ok (.iconst 0, 1) := by decide +kernel
theorem dX8_moves_94 : decode cX8_moves 94 = .ok (.invokestatic 170, 3) := by decide +kernel
theorem dX8_moves_97 : decode cX8_moves 97 = .ok (.goto 23, 3) := by decide +kernel
theorem dX8_moves_100 : decode cX8_moves 100 = .ok (.aload_n 0, 1) := by decide +kernel
theorem dX8_moves_101 : decode cX8_moves 101 = .ok (.iload_n 1, 1) := by decide +kernel
theorem dX8_moves_102 : decode cX8_moves 102 = .ok (.iconst 4, 1) := by decide +kernel
theorem dX8_moves_103 : decode cX8_moves 103 = .ok (.iload 4, 2) := by decide +kernel
theorem dX8_moves_105 : decode cX8_moves 105 = .ok (.iload 5, 2) := by decide +kernel
theorem dX8_moves_107 : decode cX8_moves 107 = .ok (.if_icmp .le 8, 3) := by decide +kernel
theorem dX8_moves_110 : decode cX8_moves 110 = .ok (.iload 5, 2) := by decide +kernel
theorem dX8_moves_112 : decode cX8_moves 112 = .ok (.goto 5, 3) := by decide +kernel
theorem dX8_moves_115 : decode cX8_moves 115 = .ok (.iload 4, 2) := by decide +kernel
theorem dX8_moves_117 : decode cX8_moves 117 = .ok (.invokestatic 170, 3) := by decide +kernel
theorem dX8_moves_120 : decode cX8_moves 120 = .ok (.return_, 1) := by decide +kernel
theorem dX8_hourBy_0 : decode cX8_hourBy 0 = .ok (.iconst 0, 1) := by decide +kernel
theorem dX8_hourBy_1 : decode cX8_hourBy 1 = .ok (.istore_n 3, 1) := by decide +kernel
theorem dX8_hourBy_2 : decode cX8_hourBy 2 = .ok (.iload_n 3, 1) := by decide +kernel
theorem dX8_hourBy_3 : decode cX8_hourBy 3 = .ok (.aload_n 1, 1) := by decide +kernel
theorem dX8_hourBy_4 : decode cX8_hourBy 4 = .ok (.iconst 0, 1) := by decide +kernel
theorem dX8_hourBy_5 : decode cX8_hourBy 5 = .ok (.iaload, 1) := by decide +kernel
theorem dX8_hourBy_6 : decode cX8_hourBy 6 = .ok (.if_icmp .ge 21, 3) := by decide +kernel
theorem dX8_hourBy_9 : decode cX8_hourBy 9 = .ok (.aload_n 0, 1) := by decide +kernel
theorem dX8_hourBy_10 : decode cX8_hourBy 10 = .ok (.getfield 28, 3) := by decide +kernel
theorem dX8_hourBy_13 : decode cX8_hourBy 13 = .ok (.iload_n 3, 1) := by decide +kernel
theorem dX8_hourBy_14 : decode cX8_hourBy 14 = .ok (.aload_n 1, 1) := by decide +kernel
theorem dX8_hourBy_15 : decode cX8_hourBy 15 = .ok (.iload_n 3, 1) := by decide +kernel
theorem dX8_hourBy_16 : decode cX8_hourBy 16 = .ok (.iload_n 2, 1) := by decide +kernel
theorem dX8_hourBy_17 : decode cX8_hourBy 17 = .ok (.invokestatic 174, 3) := by decide +kernel
theorem dX8_hourBy_20 : decode cX8_hourBy 20 = .ok (.iastore, 1) := by decide +kernel
theorem dX8_hourBy_21 : decode cX8_hourBy 21 = .ok (.iinc 3 1, 3) := by decide +kernel
theorem dX8_hourBy_24 : decode cX8_hourBy 24 = .ok (.goto (-22), 3) := by decide +kernel
theorem dX8_hourBy_27 : decode cX8_hourBy 27 = .ok (.iconst 0, 1) := by decide +kernel
theorem dX8_hourBy_28 : decode cX8_hourBy 28 = .ok (.istore_n 3, 1) := by decide +kernel
theorem dX8_hourBy_29 : decode cX8_hourBy 29 = .ok (.iload_n 3, 1) := by decide +kernel
theorem dX8_hourBy_30 : decode cX8_hourBy 30 = .ok (.aload_n 1, 1) := by decide +kernel
theorem dX8_hourBy_31 : decode cX8_hourBy 31 = .ok (.iconst 0, 1) := by decide +kernel
theorem dX8_hourBy_32 : decode cX8_hourBy 32 = .ok (.iaload, 1) := by decide +kernel
theorem dX8_hourBy_33 : decode cX8_hourBy 33 = .ok (.if_icmp .ge 29, 3) := by decide +kernel
theorem dX8_hourBy_36 : decode cX8_hourBy 36 = .ok (.aload_n 1, 1) := by decide +kernel
theorem dX8_hourBy_37 : decode cX8_hourBy 37 = .ok (.iload_n 3, 1) := by decide +kernel
theorem dX8_hourBy_38 : decode cX8_hourBy 38 = .ok (.invokestatic 159, 3) := by decide +kernel
theorem dX8_hourBy_41 : decode cX8_hourBy 41 = .ok (.ifCond .eq 15, 3) := by decide +kernel
theorem dX8_hourBy_44 : decode cX8_hourBy 44 = .ok (.aload_n 1, 1) := by decide +kernel
theorem dX8_hourBy_45 : decode cX8_hourBy 45 = .ok (.iload_n 3, 1) := by decide +kernel
theorem dX8_hourBy_46 : decode cX8_hourBy 46 = .ok (.aload_n 0, 1) := by decide +kernel
theorem dX8_hourBy_47 : decode cX8_hourBy 47 = .ok (.getfield 28, 3) := by decide +kernel
theorem dX8_hourBy_50 : decode cX8_hourBy 50 = .ok (.iload_n 3, 1) := by decide +kernel
theorem dX8_hourBy_51 : decode cX8_hourBy 51 = .ok (.iaload, 1) := by decide +kernel
theorem dX8_hourBy_52 : decode cX8_hourBy 52 = .ok (.iload_n 2, 1) := by decide +kernel
theorem dX8_hourBy_53 : decode cX8_hourBy 53 = .ok (.invokestatic 177, 3) := by decide +kernel
theorem dX8_hourBy_56 : decode cX8_hourBy 56 = .ok (.iinc 3 1, 3) := by decide +kernel
theorem dX8_hourBy_59 : decode cX8_hourBy 59 = .ok (.goto (-30), 3) := by decide +kernel
theorem dX8_hourBy_62 : decode cX8_hourBy 62 = .ok (.aload_n 1, 1) := by decide +kernel
theorem dX8_hourBy_63 : decode cX8_hourBy 63 = .ok (.iconst 4, 1) := by decide +kernel
theorem dX8_hourBy_64 : decode cX8_hourBy 64 = .ok (.dup2, 1) := by decide +kernel
theorem dX8_hourBy_65 : decode cX8_hourBy 65 = .ok (.iaload, 1) := by decide +kernel
theorem dX8_hourBy_66 : decode cX8_hourBy 66 = .ok (.iconst 1, 1) := by decide +kernel
theorem dX8_hourBy_67 : decode cX8_hourBy 67 = .ok (.iadd, 1) := by decide +kernel
theorem dX8_hourBy_68 : decode cX8_hourBy 68 = .ok (.iastore, 1) := by decide +kernel
theorem dX8_hourBy_69 : decode cX8_hourBy 69 = .ok (.return_, 1) := by decide +kernel
theorem dX8_hour_0 : decode cX8_hour 0 = .ok (.aload_n 0, 1) := by decide +kernel
theorem dX8_hour_1 : decode cX8_hour 1 = .ok (.aload_n 1, 1) := by decide +kernel
theorem dX8_hour_2 : decode cX8_hour 2 = .ok (.aload_n 1, 1) := by decide +kernel
theorem dX8_hour_3 : decode cX8_hour 3 = .ok (.aload_n 1, 1) := by decide +kernel
theorem dX8_hour_4 : decode cX8_hour 4 = .ok (.iconst 4, 1) := by decide +kernel
theorem dX8_hour_5 : decode cX8_hour 5 = .ok (.iaload, 1) := by decide +kernel
theorem dX8_hour_6 : decode cX8_hour 6 = .ok (.invokestatic 180, 3) := by decide +kernel
theorem dX8_hour_9 : decode cX8_hour 9 = .ok (.invokevirtual 184, 3) := by decide +kernel
theorem dX8_hour_12 : decode cX8_hour 12 = .ok (.return_, 1) := by decide +kernel
theorem dX8_hoursOf_0 : decode cX8_hoursOf 0 = .ok (.iconst 0, 1) := by decide +kernel
theorem dX8_hoursOf_1 : decode cX8_hoursOf 1 = .ok (.istore_n 3, 1) := by decide +kernel
theorem dX8_hoursOf_2 : decode cX8_hoursOf 2 = .ok (.iload_n 3, 1) := by decide +kernel
theorem dX8_hoursOf_3 : decode cX8_hoursOf 3 = .ok (.iload_n 2, 1) := by decide +kernel
theorem dX8_hoursOf_4 : decode cX8_hoursOf 4 = .ok (.if_icmp .ge 14, 3) := by decide +kernel
theorem dX8_hoursOf_7 : decode cX8_hoursOf 7 = .ok (.aload_n 0, 1) := by decide +kernel
theorem dX8_hoursOf_8 : decode cX8_hoursOf 8 = .ok (.aload_n 1, 1) := by decide +kernel
theorem dX8_hoursOf_9 : decode cX8_hoursOf 9 = .ok (.invokevirtual 188, 3) := by decide +kernel
theorem dX8_hoursOf_12 : decode cX8_hoursOf 12 = .ok (.iinc 3 1, 3) := by decide +kernel
theorem dX8_hoursOf_15 : decode cX8_hoursOf 15 = .ok (.goto (-13), 3) := by decide +kernel
theorem dX8_hoursOf_18 : decode cX8_hoursOf 18 = .ok (.return_, 1) := by decide +kernel
theorem dX8_isPolicy_0 : decode cX8_isPolicy 0 = .ok (.aload_n 0, 1) := by decide +kernel
theorem dX8_isPolicy_1 : decode cX8_isPolicy 1 = .ok (.iload_n 1, 1) := by decide +kernel
theorem dX8_isPolicy_2 : decode cX8_isPolicy 2 = .ok (.invokestatic 159, 3) := by decide +kernel
theorem dX8_isPolicy_5 : decode cX8_isPolicy 5 = .ok (.ifCond .eq 19, 3) := by decide +kernel
theorem dX8_isPolicy_8 : decode cX8_isPolicy 8 = .ok (.aload_n 0, 1) := by decide +kernel
theorem dX8_isPolicy_9 : decode cX8_isPolicy 9 = .ok (.iload_n 1, 1) := by decide +kernel
theorem dX8_isPolicy_10 : decode cX8_isPolicy 10 = .ok (.iconst 4, 1) := by decide +kernel
theorem dX8_isPolicy_11 : decode cX8_isPolicy 11 = .ok (.invokestatic 155, 3) := by decide +kernel
theorem dX8_isPolicy_14 : decode cX8_isPolicy 14 = .ok (.aload_n 0, 1) := by decide +kernel
theorem dX8_isPolicy_15 : decode cX8_isPolicy 15 = .ok (.iconst 2, 1) := by decide +kernel
theorem dX8_isPolicy_16 : decode cX8_isPolicy 16 = .ok (.iaload, 1) := by decide +kernel
theorem dX8_isPolicy_17 : decode cX8_isPolicy 17 = .ok (.if_icmp .lt 7, 3) := by decide +kernel
theorem dX8_isPolicy_20 : decode cX8_isPolicy 20 = .ok (.iconst 1, 1) := by decide +kernel
theorem dX8_isPolicy_21 : decode cX8_isPolicy 21 = .ok (.goto 4, 3) := by decide +kernel
theorem dX8_isPolicy_24 : decode cX8_isPolicy 24 = .ok (.iconst 0, 1) := by decide +kernel
theorem dX8_isPolicy_25 : decode cX8_isPolicy 25 = .ok (.ireturn, 1) := by decide +kernel
theorem dX8_policies_0 : decode cX8_policies 0 = .ok (.iconst 0, 1) := by decide +kernel
theorem dX8_policies_1 : decode cX8_policies 1 = .ok (.istore_n 1, 1) := by decide +kernel
theorem dX8_policies_2 : decode cX8_policies 2 = .ok (.iconst 0, 1) := by decide +kernel
theorem dX8_policies_3 : decode cX8_policies 3 = .ok (.istore_n 2, 1) := by decide +kernel
theorem dX8_policies_4 : decode cX8_policies 4 = .ok (.iload_n 2, 1) := by decide +kernel
theorem dX8_policies_5 : decode cX8_policies 5 = .ok (.aload_n 0, 1) := by decide +kernel
theorem dX8_policies_6 : decode cX8_policies 6 = .ok (.iconst 0, 1) := by decide +kernel
theorem dX8_policies_7 : decode cX8_policies 7 = .ok (.iaload, 1) := by decide +kernel
theorem dX8_policies_8 : decode cX8_policies 8 = .ok (.if_icmp .ge 27, 3) := by decide +kernel
theorem dX8_policies_11 : decode cX8_policies 11 = .ok (.iload_n 1, 1) := by decide +kernel
theorem dX8_policies_12 : decode cX8_policies 12 = .ok (.aload_n 0, 1) := by decide +kernel
theorem dX8_policies_13 : decode cX8_policies 13 = .ok (.iload_n 2, 1) := by decide +kernel
theorem dX8_policies_14 : decode cX8_policies 14 = .ok (.invokestatic 192, 3) := by decide +kernel
theorem dX8_policies_17 : decode cX8_policies 17 = .ok (.ifCond .eq 9, 3) := by decide +kernel
theorem dX8_policies_20 : decode cX8_policies 20 = .ok (.iconst 1, 1) := by decide +kernel
theorem dX8_policies_21 : decode cX8_policies 21 = .ok (.iload_n 2, 1) := by decide +kernel
theorem dX8_policies_22 : decode cX8_policies 22 = .ok (.ishl, 1) := by decide +kernel
theorem dX8_policies_23 : decode cX8_policies 23 = .ok (.goto 4, 3) := by decide +kernel
theorem dX8_policies_26 : decode cX8_policies 26 = .ok (.iconst 0, 1) := by decide +kernel
theorem dX8_policies_27 : decode cX8_policies 27 = .ok (.ior, 1) := by decide +kernel
theorem dX8_policies_28 : decode cX8_policies 28 = .ok (.istore_n 1, 1) := by decide +kernel
theorem dX8_policies_29 : decode cX8_policies 29 = .ok (.iinc 2 1, 3) := by decide +kernel
theorem dX8_policies_32 : decode cX8_policies 32 = .ok (.goto (-28), 3) := by decide +kernel
theorem dX8_policies_35 : decode cX8_policies 35 = .ok (.iload_n 1, 1) := by decide +kernel
theorem dX8_policies_36 : decode cX8_policies 36 = .ok (.ireturn, 1) := by decide +kernel
theorem dX8_those_0 : decode cX8_those 0 = .ok (.iconst 0, 1) := by decide +kernel
theorem dX8_those_1 : decode cX8_those 1 = .ok (.istore_n 2, 1) := by decide +kernel
theorem dX8_those_2 : decode cX8_those 2 = .ok (.iconst 0, 1) := by decide +kernel
theorem dX8_those_3 : decode cX8_those 3 = .ok (.istore_n 3, 1) := by decide +kernel
theorem dX8_those_4 : decode cX8_those 4 = .ok (.iload_n 3, 1) := by decide +kernel
theorem dX8_those_5 : decode cX8_those 5 = .ok (.aload_n 0, 1) := by decide +kernel
theorem dX8_those_6 : decode cX8_those 6 = .ok (.iconst 0, 1) := by decide +kernel
theorem dX8_those_7 : decode cX8_those 7 = .ok (.iaload, 1) := by decide +kernel
theorem dX8_those_8 : decode cX8_those 8 = .ok (.if_icmp .ge 29, 3) := by decide +kernel
theorem dX8_those_11 : decode cX8_those 11 = .ok (.iload_n 2, 1) := by decide +kernel
theorem dX8_those_12 : decode cX8_those 12 = .ok (.aload_n 0, 1) := by decide +kernel
theorem dX8_those_13 : decode cX8_those 13 = .ok (.iload_n 3, 1) := by decide +kernel
theorem dX8_those_14 : decode cX8_those 14 = .ok (.iconst 3, 1) := by decide +kernel
theorem dX8_those_15 : decode cX8_those 15 = .ok (.invokestatic 155, 3) := by decide +kernel
theorem dX8_those_18 : decode cX8_those 18 = .ok (.iload_n 1, 1) := by decide +kernel
theorem dX8_those_19 : decode cX8_those 19 = .ok (.if_icmp .ne 9, 3) := by decide +kernel
theorem dX8_those_22 : decode cX8_those 22 = .ok (.iconst 1, 1) := by decide +kernel
theorem dX8_those_23 : decode cX8_those 23 = .ok (.iload_n 3, 1) := by decide +kernel
theorem dX8_those_24 : decode cX8_those 24 = .ok (.ishl, 1) := by decide +kernel
theorem dX8_those_25 : decode cX8_those 25 = .ok (.goto 4, 3) := by decide +kernel
theorem dX8_those_28 : decode cX8_those 28 = .ok (.iconst 0, 1) := by decide +kernel
theorem dX8_those_29 : decode cX8_those 29 = .ok (.ior, 1) := by decide +kernel
theorem dX8_those_30 : decode cX8_those 30 = .ok (.istore_n 2, 1) := by decide +kernel
theorem dX8_those_31 : decode cX8_those 31 = .ok (.iinc 3 1, 3) := by decide +kernel
theorem dX8_those_34 : decode cX8_those 34 = .ok (.goto (-30), 3) := by decide +kernel
theorem dX8_those_37 : decode cX8_those 37 = .ok (.iload_n 2, 1) := by decide +kernel
theorem dX8_those_38 : decode cX8_those 38 = .ok (.ireturn, 1) := by decide +kernel
theorem dX8_layThen_0 : decode cX8_layThen 0 = .ok (.iconst 0, 1) := by decide +kernel
theorem dX8_layThen_1 : decode cX8_layThen 1 = .ok (.istore_n 1, 1) := by decide +kernel
theorem dX8_layThen_2 : decode cX8_layThen 2 = .ok (.iload_n 1, 1) := by decide +kernel
theorem dX8_layThen_3 : decode cX8_layThen 3 = .ok (.bipush 53, 2) := by decide +kernel
theorem dX8_layThen_5 : decode cX8_layThen 5 = .ok (.if_icmp .ge 21, 3) := by decide +kernel
theorem dX8_layThen_8 : decode cX8_layThen 8 = .ok (.aload_n 0, 1) := by decide +kernel
theorem dX8_layThen_9 : decode cX8_layThen 9 = .ok (.getfield 25, 3) := by decide +kernel
theorem dX8_layThen_12 : decode cX8_layThen 12 = .ok (.iload_n 1, 1) := by decide +kernel
theorem dX8_layThen_13 : decode cX8_layThen 13 = .ok (.aload_n 0, 1) := by decide +kernel
theorem dX8_layThen_14 : decode cX8_layThen 14 = .ok (.getfield 19, 3) := by decide +kernel
theorem dX8_layThen_17 : decode cX8_layThen 17 = .ok (.iload_n 1, 1) := by decide +kernel
theorem dX8_layThen_18 : decode cX8_layThen 18 = .ok (.iaload, 1) := by decide +kernel
theorem dX8_layThen_19 : decode cX8_layThen 19 = .ok (.iastore, 1) := by decide +kernel
theorem dX8_layThen_20 : decode cX8_layThen 20 = .ok (.iinc 1 1, 3) := by decide +kernel
theorem dX8_layThen_23 : decode cX8_layThen 23 = .ok (.goto (-21), 3) := by decide +kernel
theorem dX8_layThen_26 : decode cX8_layThen 26 = .ok (.return_, 1) := by decide +kernel
theorem dX8_goesUp_0 : decode cX8_goesUp 0 = .ok (.aload_n 0, 1) := by decide +kernel
theorem dX8_goesUp_1 : decode cX8_goesUp 1 = .ok (.iload_n 1, 1) := by decide +kernel
theorem dX8_goesUp_2 : decode cX8_goesUp 2 = .ok (.iconst 3, 1) := by decide +kernel
theorem dX8_goesUp_3 : decode cX8_goesUp 3 = .ok (.iconst 1, 1) := by decide +kernel
theorem dX8_goesUp_4 : decode cX8_goesUp 4 = .ok (.invokestatic 170, 3) := by decide +kernel
theorem dX8_goesUp_7 : decode cX8_goesUp 7 = .ok (.aload_n 0, 1) := by decide +kernel
theorem dX8_goesUp_8 : decode cX8_goesUp 8 = .ok (.iload_n 1, 1) := by decide +kernel
theorem dX8_goesUp_9 : decode cX8_goesUp 9 = .ok (.iconst 4, 1) := by decide +kernel
theorem dX8_goesUp_10 : decode cX8_goesUp 10 = .ok (.iconst 0, 1) := by decide +kernel
theorem dX8_goesUp_11 : decode cX8_goesUp 11 = .ok (.invokestatic 170, 3) := by decide +kernel
theorem dX8_goesUp_14 : decode cX8_goesUp 14 = .ok (.aload_n 0, 1) := by decide +kernel
theorem dX8_goesUp_15 : decode cX8_goesUp 15 = .ok (.iload_n 1, 1) := by decide +kernel
theorem dX8_goesUp_16 : decode cX8_goesUp 16 = .ok (.iconst 5, 1) := by decide +kernel
theorem dX8_goesUp_17 : decode cX8_goesUp 17 = .ok (.iload_n 2, 1) := by decide +kernel
theorem dX8_goesUp_18 : decode cX8_goesUp 18 = .ok (.invokestatic 170, 3) := by decide +kernel
theorem dX8_goesUp_21 : decode cX8_goesUp 21 = .ok (.return_, 1) := by decide +kernel
theorem dX8_letsOut_0 : decode cX8_letsOut 0 = .ok (.aload_n 0, 1) := by decide +kernel
theorem dX8_letsOut_1 : decode cX8_letsOut 1 = .ok (.iload_n 1, 1) := by decide +kernel
theorem dX8_letsOut_2 : decode cX8_letsOut 2 = .ok (.iconst 5, 1) := by decide +kernel
theorem dX8_letsOut_3 : decode cX8_letsOut 3 = .ok (.iload_n 2, 1) := by decide +kernel
theorem dX8_letsOut_4 : decode cX8_letsOut 4 = .ok (.invokestatic 170, 3) := by decide +kernel
theorem dX8_letsOut_7 : decode cX8_letsOut 7 = .ok (.aload_n 0, 1) := by decide +kernel
theorem dX8_letsOut_8 : decode cX8_letsOut 8 = .ok (.iload_n 1, 1) := by decide +kernel
theorem dX8_letsOut_9 : decode cX8_letsOut 9 = .ok (.iconst 4, 1) := by decide +kernel
theorem dX8_letsOut_10 : decode cX8_letsOut 10 = .ok (.aload_n 0, 1) := by decide +kernel
theorem dX8_letsOut_11 : decode cX8_letsOut 11 = .ok (.iload_n 1, 1) := by decide +kernel
theorem dX8_letsOut_12 : decode cX8_letsOut 12 = .ok (.iconst 4, 1) := by decide +kernel
theorem dX8_letsOut_13 : decode cX8_letsOut 13 = .ok (.invokestatic 155, 3) := by decide +kernel
theorem dX8_letsOut_16 : decode cX8_letsOut 16 = .ok (.iload_n 2, 1) := by decide +kernel
theorem dX8_letsOut_17 : decode cX8_letsOut 17 = .ok (.if_icmp .le 7, 3) := by decide +kernel
theorem dX8_letsOut_20 : decode cX8_letsOut 20 = .ok (.iload_n 2, 1) := by decide +kernel
theorem dX8_letsOut_21 : decode cX8_letsOut 21 = .ok (.goto 9, 3) := by decide +kernel
theorem dX8_letsOut_24 : decode cX8_letsOut 24 = .ok (.aload_n 0, 1) := by decide +kernel
theorem dX8_letsOut_25 : decode cX8_letsOut 25 = .ok (.iload_n 1, 1) := by decide +kernel
theorem dX8_letsOut_26 : decode cX8_letsOut 26 = .ok (.iconst 4, 1) := by decide +kernel
theorem dX8_letsOut_27 : decode cX8_letsOut 27 = .ok (.invokestatic 155, 3) := by decide +kernel
theorem dX8_letsOut_30 : decode cX8_letsOut 30 = .ok (.invokestatic 170, 3) := by decide +kernel
theorem dX8_letsOut_33 : decode cX8_letsOut 33 = .ok (.return_, 1) := by decide +kernel
theorem dX8_keep_0 : decode cX8_keep 0 = .ok (.aload_n 0, 1) := by decide +kernel
theorem dX8_keep_1 : decode cX8_keep 1 = .ok (.getfield 152, 3) := by decide +kernel
theorem dX8_keep_4 : decode cX8_keep 4 = .ok (.bipush 24, 2) := by decide +kernel
theorem dX8_keep_6 : decode cX8_keep 6 = .ok (.if_icmp .ne 43, 3) := by decide +kernel
theorem dX8_keep_9 : decode cX8_keep 9 = .ok (.iconst 0, 1) := by decide +kernel
theorem dX8_keep_10 : decode cX8_keep 10 = .ok (.istore_n 1, 1) := by decide +kernel
theorem dX8_keep_11 : decode cX8_keep 11 = .ok (.iload_n 1, 1) := by decide +kernel
theorem dX8_keep_12 : decode cX8_keep 12 = .ok (.sipush 1219, 3) := by decide +kernel
theorem dX8_keep_15 : decode cX8_keep 15 = .ok (.if_icmp .ge 24, 3) := by decide +kernel
theorem dX8_keep_18 : decode cX8_keep 18 = .ok (.aload_n 0, 1) := by decide +kernel
theorem dX8_keep_19 : decode cX8_keep 19 = .ok (.getfield 31, 3) := by decide +kernel
theorem dX8_keep_22 : decode cX8_keep 22 = .ok (.iload_n 1, 1) := by decide +kernel
theorem dX8_keep_23 : decode cX8_keep 23 = .ok (.aload_n 0, 1) := by decide +kernel
theorem dX8_keep_24 : decode cX8_keep 24 = .ok (.getfield 31, 3) := by decide +kernel
theorem dX8_keep_27 : decode cX8_keep 27 = .ok (.iload_n 1, 1) := by decide +kernel
theorem dX8_keep_28 : decode cX8_keep 28 = .ok (.bipush 53, 2) := by decide +kernel
theorem dX8_keep_30 : decode cX8_keep 30 = .ok (.iadd, 1) := by decide +kernel
theorem dX8_keep_31 : decode cX8_keep 31 = .ok (.iaload, 1) := by decide +kernel
theorem dX8_keep_32 : decode cX8_keep 32 = .ok (.iastore, 1) := by decide +kernel
theorem dX8_keep_33 : decode cX8_keep 33 = .ok (.iinc 1 1, 3) := by decide +kernel
theorem dX8_keep_36 : decode cX8_keep 36 = .ok (.goto (-25), 3) := by decide +kernel
theorem dX8_keep_39 : decode cX8_keep 39 = .ok (.aload_n 0, 1) := by decide +kernel
theorem dX8_keep_40 : decode cX8_keep 40 = .ok (.dup, 1) := by decide +kernel
theorem dX8_keep_41 : decode cX8_keep 41 = .ok (.getfield 152, 3) := by decide +kernel
theorem dX8_keep_44 : decode cX8_keep 44 = .ok (.iconst 1, 1) := by decide +kernel
theorem dX8_keep_45 : decode cX8_keep 45 = .ok (.isub, 1) := by decide +kernel
theorem dX8_keep_46 : decode cX8_keep 46 = .ok (.putfield 152, 3) := by decide +kernel
theorem dX8_keep_49 : decode cX8_keep 49 = .ok (.iconst 0, 1) := by decide +kernel
theorem dX8_keep_50 : decode cX8_keep 50 = .ok (.istore_n 1, 1) := by decide +kernel
theorem dX8_keep_51 : decode cX8_keep 51 = .ok (.iload_n 1, 1) := by decide +kernel
theorem dX8_keep_52 : decode cX8_keep 52 = .ok (.bipush 53, 2) := by decide +kernel
theorem dX8_keep_54 : decode cX8_keep 54 = .ok (.if_icmp .ge 29, 3) := by decide +kernel
theorem dX8_keep_57 : decode cX8_keep 57 = .ok (.aload_n 0, 1) := by decide +kernel
theorem dX8_keep_58 : decode cX8_keep 58 = .ok (.getfield 31, 3) := by decide +kernel
theorem dX8_keep_61 : decode cX8_keep 61 = .ok (.bipush 53, 2) := by decide +kernel
theorem dX8_keep_63 : decode cX8_keep 63 = .ok (.aload_n 0, 1) := by decide +kernel
theorem dX8_keep_64 : decode cX8_keep 64 = .ok (.getfield 152, 3) := by decide +kernel
theorem dX8_keep_67 : decode cX8_keep 67 = .ok (.imul, 1) := by decide +kernel
theorem dX8_keep_68 : decode cX8_keep 68 = .ok (.iload_n 1, 1) := by decide +kernel
theorem dX8_keep_69 : decode cX8_keep 69 = .ok (.iadd, 1) := by decide +kernel
theorem dX8_keep_70 : decode cX8_keep 70 = .ok (.aload_n 0, 1) := by decide +kernel
theorem dX8_keep_71 : decode cX8_keep 71 = .ok (.getfield 19, 3) := by decide +kernel
theorem dX8_keep_74 : decode cX8_keep 74 = .ok (.iload_n 1, 1) := by decide +kernel
theorem dX8_keep_75 : decode cX8_keep 75 = .ok (.iaload, 1) := by decide +kernel
theorem dX8_keep_76 : decode cX8_keep 76 = .ok (.iastore, 1) := by decide +kernel
theorem dX8_keep_77 : decode cX8_keep 77 = .ok (.iinc 1 1, 3) := by decide +kernel
theorem dX8_keep_80 : decode cX8_keep 80 = .ok (.goto (-29), 3) := by decide +kernel
theorem dX8_keep_83 : decode cX8_keep 83 = .ok (.aload_n 0, 1) := by decide +kernel
theorem dX8_keep_84 : decode cX8_keep 84 = .ok (.dup, 1) := by decide +kernel
theorem dX8_keep_85 : decode cX8_keep 85 = .ok (.getfield 152, 3) := by decide +kernel
theorem dX8_keep_88 : decode cX8_keep 88 = .ok (.iconst 1, 1) := by decide +kernel
theorem dX8_keep_89 : decode cX8_keep 89 = .ok (.iadd, 1) := by decide +kernel
theorem dX8_keep_90 : decode cX8_keep 90 = .ok (.putfield 152, 3) := by decide +kernel
theorem dX8_keep_93 : decode cX8_keep 93 = .ok (.return_, 1) := by decide +kernel
theorem dX8_hours_0 : decode cX8_hours 0 = .ok (.aload_n 0, 1) := by decide +kernel
theorem dX8_hours_1 : decode cX8_hours 1 = .ok (.iconst 0, 1) := by decide +kernel
theorem dX8_hours_2 : decode cX8_hours 2 = .ok (.putfield 50, 3) := by decide +kernel
theorem dX8_hours_5 : decode cX8_hours 5 = .ok (.aload_n 0, 1) := by decide +kernel
theorem dX8_hours_6 : decode cX8_hours 6 = .ok (.invokevirtual 195, 3) := by decide +kernel
theorem dX8_hours_9 : decode cX8_hours 9 = .ok (.ifCond .ne 6, 3) := by decide +kernel
theorem dX8_hours_12 : decode cX8_hours 12 = .ok (.ldc 198, 2) := by decide +kernel
theorem dX8_hours_14 : decode cX8_hours 14 = .ok (.ireturn, 1) := by decide +kernel
theorem dX8_hours_15 : decode cX8_hours 15 = .ok (.iload_n 1, 1) := by decide +kernel
theorem dX8_hours_16 : decode cX8_hours 16 = .ok (.i2l, 1) := by decide +kernel
theorem dX8_hours_17 : decode cX8_hours 17 = .ok (.lconst 1, 1) := by decide +kernel
theorem dX8_hours_18 : decode cX8_hours 18 = .ok (.ldc2_w 199, 3) := by decide +kernel
theorem dX8_hours_21 : decode cX8_hours 21 = .ok (.invokestatic 60, 3) := by decide +kernel
theorem dX8_hours_24 : decode cX8_hours 24 = .ok (.ifCond .ne 6, 3) := by decide +kernel
theorem dX8_hours_27 : decode cX8_hours 27 = .ok (.ldc 70, 2) := by decide +kernel
theorem dX8_hours_29 : decode cX8_hours 29 = .ok (.ireturn, 1) := by decide +kernel
theorem dX8_hours_30 : decode cX8_hours 30 = .ok (.aload_n 0, 1) := by decide +kernel
theorem dX8_hours_31 : decode cX8_hours 31 = .ok (.getfield 19, 3) := by decide +kernel
theorem dX8_hours_34 : decode cX8_hours 34 = .ok (.iconst 4, 1) := by decide +kernel
theorem dX8_hours_35 : decode cX8_hours 35 = .ok (.iaload, 1) := by decide +kernel
theorem dX8_hours_36 : decode cX8_hours 36 = .ok (.iload_n 1, 1) := by decide +kernel
theorem dX8_hours_37 : decode cX8_hours 37 = .ok (.iadd, 1) := by decide +kernel
theorem dX8_hours_38 : decode cX8_hours 38 = .ok (.sipush 999, 3) := by decide +kernel
theorem dX8_hours_41 : decode cX8_hours 41 = .ok (.if_icmp .le 6, 3) := by decide +kernel
theorem dX8_hours_44 : decode cX8_hours 44 = .ok (.ldc 80, 2) := by decide +kernel
theorem dX8_hours_46 : decode cX8_hours 46 = .ok (.ireturn, 1) := by decide +kernel
theorem dX8_hours_47 : decode cX8_hours 47 = .ok (.iconst 0, 1) := by decide +kernel
theorem dX8_hours_48 : decode cX8_hours 48 = .ok (.istore_n 2, 1) := by decide +kernel
theorem dX8_hours_49 : decode cX8_hours 49 = .ok (.iload_n 2, 1) := by decide +kernel
theorem dX8_hours_50 : decode cX8_hours 50 = .ok (.iload_n 1, 1) := by decide +kernel
theorem dX8_hours_51 : decode cX8_hours 51 = .ok (.if_icmp .ge 21, 3) := by decide +kernel
theorem dX8_hours_54 : decode cX8_hours 54 = .ok (.aload_n 0, 1) := by decide +kernel
theorem dX8_hours_55 : decode cX8_hours 55 = .ok (.invokevirtual 201, 3) := by decide +kernel
theorem dX8_hours_58 : decode cX8_hours 58 = .ok (.aload_n 0, 1) := by decide +kernel
theorem dX8_hours_59 : decode cX8_hours 59 = .ok (.aload_n 0, 1) := by decide +kernel
theorem dX8_hours_60 : decode cX8_hours 60 = .ok (.getfield 19, 3) := by decide +kernel
theorem dX8_hours_63 : decode cX8_hours 63 = .ok (.invokevirtual 188, 3) := by decide +kernel
theorem dX8_hours_66 : decode cX8_hours 66 = .ok (.iinc 2 1, 3) := by decide +kernel
theorem dX8_hours_69 : decode cX8_hours 69 = .ok (.goto (-20), 3) := by decide +kernel
theorem dX8_hours_72 : decode cX8_hours 72 = .ok (.aload_n 0, 1) := by decide +kernel
theorem dX8_hours_73 : decode cX8_hours 73 = .ok (.getfield 19, 3) := by decide +kernel
theorem dX8_hours_76 : decode cX8_hours 76 = .ok (.invokestatic 204, 3) := by decide +kernel
theorem dX8_hours_79 : decode cX8_hours 79 = .ok (.ireturn, 1) := by decide +kernel
theorem dX8_send_0 : decode cX8_send 0 = .ok (.aload_n 0, 1) := by decide +kernel
theorem dX8_send_1 : decode cX8_send 1 = .ok (.iconst 0, 1) := by decide +kernel
theorem dX8_send_2 : decode cX8_send 2 = .ok (.putfield 50, 3) := by decide +kernel
theorem dX8_send_5 : decode cX8_send 5 = .ok (.aload_n 0, 1) := by decide +kernel
theorem dX8_send_6 : decode cX8_send 6 = .ok (.iload_n 1, 1) := by decide +kernel
theorem dX8_send_7 : decode cX8_send 7 = .ok (.invokevirtual 208, 3) := by decide +kernel
theorem dX8_send_10 : decode cX8_send 10 = .ok (.ifCond .eq 15, 3) := by decide +kernel
theorem dX8_send_13 : decode cX8_send 13 = .ok (.iload_n 2, 1) := by decide +kernel
theorem dX8_send_14 : decode cX8_send 14 = .ok (.i2l, 1) := by decide +kernel
theorem dX8_send_15 : decode cX8_send 15 = .ok (.lconst 1, 1) := by decide +kernel
theorem dX8_send_16 : decode cX8_send 16 = .ok (.ldc2_w 211, 3) := by decide +kernel
theorem dX8_send_19 : decode cX8_send 19 = .ok (.invokestatic 60, 3) := by decide +kernel
theorem dX8_send_22 : decode cX8_send 22 = .ok (.ifCond .ne 6, 3) := by decide +kernel
theorem dX8_send_25 : decode cX8_send 25 = .ok (.ldc 70, 2) := by decide +kernel
theorem dX8_send_27 : decode cX8_send 27 = .ok (.ireturn, 1) := by decide +kernel
theorem dX8_send_28 : decode cX8_send 28 = .ok (.aload_n 0, 1) := by decide +kernel
theorem dX8_send_29 : decode cX8_send 29 = .ok (.getfield 19, 3) := by decide +kernel
theorem dX8_send_32 : decode cX8_send 32 = .ok (.iload_n 1, 1) := by decide +kernel
theorem dX8_send_33 : decode cX8_send 33 = .ok (.iconst 3, 1) := by decide +kernel
theorem dX8_send_34 : decode cX8_send 34 = .ok (.invokestatic 155, 3) := by decide +kernel
theorem dX8_send_37 : decode cX8_send 37 = .ok (.ifCond .eq 6, 3) := by decide +kernel
theorem dX8_send_40 : decode cX8_send 40 = .ok (.ldc 198, 2) := by decide +kernel
theorem dX8_send_42 : decode cX8_send 42 = .ok (.ireturn, 1) := by decide +kernel
theorem dX8_send_43 : decode cX8_send 43 = .ok (.aload_n 0, 1) := by decide +kernel
theorem dX8_send_44 : decode cX8_send 44 = .ok (.invokevirtual 201, 3) := by decide +kernel
theorem dX8_send_47 : decode cX8_send 47 = .ok (.aload_n 0, 1) := by decide +kernel
theorem dX8_send_48 : decode cX8_send 48 = .ok (.getfield 19, 3) := by decide +kernel
theorem dX8_send_51 : decode cX8_send 51 = .ok (.iload_n 1, 1) := by decide +kernel
theorem dX8_send_52 : decode cX8_send 52 = .ok (.iload_n 2, 1) := by decide +kernel
theorem dX8_send_53 : decode cX8_send 53 = .ok (.invokestatic 213, 3) := by decide +kernel
theorem dX8_send_56 : decode cX8_send 56 = .ok (.aload_n 0, 1) := by decide +kernel
theorem dX8_send_57 : decode cX8_send 57 = .ok (.getfield 19, 3) := by decide +kernel
theorem dX8_send_60 : decode cX8_send 60 = .ok (.iconst 1, 1) := by decide +kernel
theorem dX8_send_61 : decode cX8_send 61 = .ok (.invokestatic 217, 3) := by decide +kernel
theorem dX8_send_64 : decode cX8_send 64 = .ok (.ireturn, 1) := by decide +kernel
theorem dX8_let_0 : decode cX8_let 0 = .ok (.aload_n 0, 1) := by decide +kernel
theorem dX8_let_1 : decode cX8_let 1 = .ok (.iconst 0, 1) := by decide +kernel
theorem dX8_let_2 : decode cX8_let 2 = .ok (.putfield 50, 3) := by decide +kernel
theorem dX8_let_5 : decode cX8_let 5 = .ok (.aload_n 0, 1) := by decide +kernel
theorem dX8_let_6 : decode cX8_let 6 = .ok (.iload_n 1, 1) := by decide +kernel
theorem dX8_let_7 : decode cX8_let 7 = .ok (.invokevirtual 208, 3) := by decide +kernel
theorem dX8_let_10 : decode cX8_let 10 = .ok (.ifCond .eq 21, 3) := by decide +kernel
theorem dX8_let_13 : decode cX8_let 13 = .ok (.iload_n 2, 1) := by decide +kernel
theorem dX8_let_14 : decode cX8_let 14 = .ok (.i2l, 1) := by decide +kernel
theorem dX8_let_15 : decode cX8_let 15 = .ok (.ldc2_w 220, 3) := by decide +kernel
theorem dX8_let_18 : decode cX8_let 18 = .ok (.ldc2_w 211, 3) := by decide +kernel
theorem dX8_let_21 : decode cX8_let 21 = .ok (.invokestatic 60, 3) := by decide +kernel
theorem dX8_let_24 : decode cX8_let 24 = .ok (.ifCond .eq 7, 3) := by decide +kernel
theorem dX8_let_27 : decode cX8_let 27 = .ok (.iload_n 2, 1) := by decide +kernel
theorem dX8_let_28 : decode cX8_let 28 = .ok (.ifCond .ne 6, 3) := by decide +kernel
theorem dX8_let_31 : decode cX8_let 31 = .ok (.ldc 70, 2) := by decide +kernel
theorem dX8_let_33 : decode cX8_let 33 = .ok (.ireturn, 1) := by decide +kernel
theorem dX8_let_34 : decode cX8_let 34 = .ok (.aload_n 0, 1) := by decide +kernel
theorem dX8_let_35 : decode cX8_let 35 = .ok (.getfield 19, 3) := by decide +kernel
theorem dX8_let_38 : decode cX8_let 38 = .ok (.iload_n 1, 1) := by decide +kernel
theorem dX8_let_39 : decode cX8_let 39 = .ok (.invokestatic 159, 3) := by decide +kernel
theorem dX8_let_42 : decode cX8_let 42 = .ok (.ifCond .eq 25, 3) := by decide +kernel
theorem dX8_let_45 : decode cX8_let 45 = .ok (.aload_n 0, 1) := by decide +kernel
theorem dX8_let_46 : decode cX8_let 46 = .ok (.getfield 19, 3) := by decide +kernel
theorem dX8_let_49 : decode cX8_let 49 = .ok (.iload_n 1, 1) := by decide +kernel
theorem dX8_let_50 : decode cX8_let 50 = .ok (.iconst 5, 1) := by decide +kernel
theorem dX8_let_51 : decode cX8_let 51 = .ok (.invokestatic 155, 3) := by decide +kernel
theorem dX8_let_54 : decode cX8_let 54 = .ok (.iload_n 2, 1) := by decide +kernel
theorem dX8_let_55 : decode cX8_let 55 = .ok (.iadd, 1) := by decide +kernel
theorem dX8_let_56 : decode cX8_let 56 = .ok (.i2l, 1) := by decide +kernel
theorem dX8_let_57 : decode cX8_let 57 = .ok (.lconst 1, 1) := by decide +kernel
theorem dX8_let_58 : decode cX8_let 58 = .ok (.ldc2_w 211, 3) := by decide +kernel
theorem dX8_let_61 : decode cX8_let 61 = .ok (.invokestatic 60, 3) := by decide +kernel
theorem dX8_let_64 : decode cX8_let 64 = .ok (.ifCond .ne 6, 3) := by decide +kernel
theorem dX8_let_67 : decode cX8_let 67 = .ok (.ldc 198, 2) := by decide +kernel
theorem dX8_let_69 : decode cX8_let 69 = .ok (.ireturn, 1) := by decide +kernel
theorem dX8_let_70 : decode cX8_let 70 = .ok (.aload_n 0, 1) := by decide +kernel
theorem dX8_let_71 : decode cX8_let 71 = .ok (.invokevirtual 201, 3) := by decide +kernel
theorem dX8_let_74 : decode cX8_let 74 = .ok (.aload_n 0, 1) := by decide +kernel
theorem dX8_let_75 : decode cX8_let 75 = .ok (.getfield 19, 3) := by decide +kernel
theorem dX8_let_78 : decode cX8_let 78 = .ok (.iload_n 1, 1) := by decide +kernel
theorem dX8_let_79 : decode cX8_let 79 = .ok (.aload_n 0, 1) := by decide +kernel
theorem dX8_let_80 : decode cX8_let 80 = .ok (.getfield 19, 3) := by decide +kernel
theorem dX8_let_83 : decode cX8_let 83 = .ok (.iload_n 1, 1) := by decide +kernel
theorem dX8_let_84 : decode cX8_let 84 = .ok (.iconst 5, 1) := by decide +kernel
theorem dX8_let_85 : decode cX8_let 85 = .ok (.invokestatic 155, 3) := by decide +kernel
theorem dX8_let_88 : decode cX8_let 88 = .ok (.iload_n 2, 1) := by decide +kernel
theorem dX8_let_89 : decode cX8_let 89 = .ok (.iadd, 1) := by decide +kernel
theorem dX8_let_90 : decode cX8_let 90 = .ok (.invokestatic 222, 3) := by decide +kernel
theorem dX8_let_93 : decode cX8_let 93 = .ok (.aload_n 0, 1) := by decide +kernel
theorem dX8_let_94 : decode cX8_let 94 = .ok (.getfield 19, 3) := by decide +kernel
theorem dX8_let_97 : decode cX8_let 97 = .ok (.iload_n 1, 1) := by decide +kernel
theorem dX8_let_98 : decode cX8_let 98 = .ok (.iconst 5, 1) := by decide +kernel
theorem dX8_let_99 : decode cX8_let 99 = .ok (.invokestatic 155, 3) := by decide +kernel
theorem dX8_let_102 : decode cX8_let 102 = .ok (.ireturn, 1) := by decide +kernel
theorem dX8_weigh_0 : decode cX8_weigh 0 = .ok (.aload_n 0, 1) := by decide +kernel
theorem dX8_weigh_1 : decode cX8_weigh 1 = .ok (.iconst 0, 1) := by decide +kernel
theorem dX8_weigh_2 : decode cX8_weigh 2 = .ok (.putfield 50, 3) := by decide +kernel
theorem dX8_weigh_5 : decode cX8_weigh 5 = .ok (.aload_n 0, 1) := by decide +kernel
theorem dX8_weigh_6 : decode cX8_weigh 6 = .ok (.iload_n 1, 1) := by decide +kernel
theorem dX8_weigh_7 : decode cX8_weigh 7 = .ok (.invokevirtual 208, 3) := by decide +kernel
theorem dX8_weigh_10 : decode cX8_weigh 10 = .ok (.ifCond .eq 15, 3) := by decide +kernel
theorem dX8_weigh_13 : decode cX8_weigh 13 = .ok (.iload_n 2, 1) := by decide +kernel
theorem dX8_weigh_14 : decode cX8_weigh 14 = .ok (.i2l, 1) := by decide +kernel
theorem dX8_weigh_15 : decode cX8_weigh 15 = .ok (.lconst 1, 1) := by decide +kernel
theorem dX8_weigh_16 : decode cX8_weigh 16 = .ok (.ldc2_w 225, 3) := by decide +kernel
theorem dX8_weigh_19 : decode cX8_weigh 19 = .ok (.invokestatic 60, 3) := by decide +kernel
theorem dX8_weigh_22 : decode cX8_weigh 22 = .ok (.ifCond .ne 6, 3) := by decide +kernel
theorem dX8_weigh_25 : decode cX8_weigh 25 = .ok (.ldc 70, 2) := by decide +kernel
theorem dX8_weigh_27 : decode cX8_weigh 27 = .ok (.ireturn, 1) := by decide +kernel
theorem dX8_weigh_28 : decode cX8_weigh 28 = .ok (.aload_n 0, 1) := by decide +kernel
theorem dX8_weigh_29 : decode cX8_weigh 29 = .ok (.invokevirtual 201, 3) := by decide +kernel
theorem dX8_weigh_32 : decode cX8_weigh 32 = .ok (.aload_n 0, 1) := by decide +kernel
theorem dX8_weigh_33 : decode cX8_weigh 33 = .ok (.getfield 19, 3) := by decide +kernel
theorem dX8_weigh_36 : decode cX8_weigh 36 = .ok (.iload_n 1, 1) := by decide +kernel
theorem dX8_weigh_37 : decode cX8_weigh 37 = .ok (.iconst 2, 1) := by decide +kernel
theorem dX8_weigh_38 : decode cX8_weigh 38 = .ok (.invokestatic 155, 3) := by decide +kernel
theorem dX8_weigh_41 : decode cX8_weigh 41 = .ok (.istore_n 3, 1) := by decide +kernel
theorem dX8_weigh_42 : decode cX8_weigh 42 = .ok (.aload_n 0, 1) := by decide +kernel
theorem dX8_weigh_43 : decode cX8_weigh 43 = .ok (.getfield 19, 3) := by decide +kernel
theorem dX8_weigh_46 : decode cX8_weigh 46 = .ok (.iload_n 1, 1) := by decide +kernel
theorem dX8_weigh_47 : decode cX8_weigh 47 = .ok (.iconst 2, 1) := by decide +kernel
theorem dX8_weigh_48 : decode cX8_weigh 48 = .ok (.iload_n 2, 1) := by decide +kernel
theorem dX8_weigh_49 : decode cX8_weigh 49 = .ok (.invokestatic 170, 3) := by decide +kernel
theorem dX8_weigh_52 : decode cX8_weigh 52 = .ok (.iload_n 3, 1) := by decide +kernel
theorem dX8_weigh_53 : decode cX8_weigh 53 = .ok (.ireturn, 1) := by decide +kernel
theorem dX8_blow_0 : decode cX8_blow 0 = .ok (.aload_n 0, 1) := by decide +kernel
theorem dX8_blow_1 : decode cX8_blow 1 = .ok (.iconst 0, 1) := by decide +kernel
theorem dX8_blow_2 : decode cX8_blow 2 = .ok (.putfield 50, 3) := by decide +kernel
theorem dX8_blow_5 : decode cX8_blow 5 = .ok (.iload_n 1, 1) := by decide +kernel
theorem dX8_blow_6 : decode cX8_blow 6 = .ok (.i2l, 1) := by decide +kernel
theorem dX8_blow_7 : decode cX8_blow 7 = .ok (.lconst 0, 1) := by decide +kernel
theorem dX8_blow_8 : decode cX8_blow 8 = .ok (.aload_n 0, 1) := by decide +kernel
theorem dX8_blow_9 : decode cX8_blow 9 = .ok (.getfield 19, 3) := by decide +kernel
theorem dX8_blow_12 : decode cX8_blow 12 = .ok (.iconst 1, 1) := by decide +kernel
theorem dX8_blow_13 : decode cX8_blow 13 = .ok (.iaload, 1) := by decide +kernel
theorem dX8_blow_14 : decode cX8_blow 14 = .ok (.iconst 1, 1) := by decide +kernel
theorem dX8_blow_15 : decode cX8_blow 15 = .ok (.isub, 1) := by decide +kernel
theorem dX8_blow_16 : decode cX8_blow 16 = .ok (.i2l, 1) := by decide +kernel
theorem dX8_blow_17 : decode cX8_blow 17 = .ok (.invokestatic 60, 3) := by decide +kernel
theorem dX8_blow_20 : decode cX8_blow 20 = .ok (.ifCond .eq 15, 3) := by decide +kernel
theorem dX8_blow_23 : decode cX8_blow 23 = .ok (.iload_n 2, 1) := by decide +kernel
theorem dX8_blow_24 : decode cX8_blow 24 = .ok (.i2l, 1) := by decide +kernel
theorem dX8_blow_25 : decode cX8_blow 25 = .ok (.lconst 0, 1) := by decide +kernel
theorem dX8_blow_26 : decode cX8_blow 26 = .ok (.ldc2_w 227, 3) := by decide +kernel
theorem dX8_blow_29 : decode cX8_blow 29 = .ok (.invokestatic 60, 3) := by decide +kernel
theorem dX8_blow_32 : decode cX8_blow 32 = .ok (.ifCond .ne 6, 3) := by decide +kernel
theorem dX8_blow_35 : decode cX8_blow 35 = .ok (.ldc 70, 2) := by decide +kernel
theorem dX8_blow_37 : decode cX8_blow 37 = .ok (.ireturn, 1) := by decide +kernel
theorem dX8_blow_38 : decode cX8_blow 38 = .ok (.aload_n 0, 1) := by decide +kernel
theorem dX8_blow_39 : decode cX8_blow 39 = .ok (.invokevirtual 201, 3) := by decide +kernel
theorem dX8_blow_42 : decode cX8_blow 42 = .ok (.aload_n 0, 1) := by decide +kernel
theorem dX8_blow_43 : decode cX8_blow 43 = .ok (.getfield 19, 3) := by decide +kernel
theorem dX8_blow_46 : decode cX8_blow 46 = .ok (.iconst 5, 1) := by decide +kernel
theorem dX8_blow_47 : decode cX8_blow 47 = .ok (.iload_n 1, 1) := by decide +kernel
theorem dX8_blow_48 : decode cX8_blow 48 = .ok (.iadd, 1) := by decide +kernel
theorem dX8_blow_49 : decode cX8_blow 49 = .ok (.iaload, 1) := by decide +kernel
theorem dX8_blow_50 : decode cX8_blow 50 = .ok (.istore_n 3, 1) := by decide +kernel
theorem dX8_blow_51 : decode cX8_blow 51 = .ok (.aload_n 0, 1) := by decide +kernel
theorem dX8_blow_52 : decode cX8_blow 52 = .ok (.getfield 19, 3) := by decide +kernel
theorem dX8_blow_55 : decode cX8_blow 55 = .ok (.iconst 5, 1) := by decide +kernel
theorem dX8_blow_56 : decode cX8_blow 56 = .ok (.iload_n 1, 1) := by decide +kernel
theorem dX8_blow_57 : decode cX8_blow 57 = .ok (.iadd, 1) := by decide +kernel
theorem dX8_blow_58 : decode cX8_blow 58 = .ok (.iload_n 2, 1) := by decide +kernel
theorem dX8_blow_59 : decode cX8_blow 59 = .ok (.iastore, 1) := by decide +kernel
theorem dX8_blow_60 : decode cX8_blow 60 = .ok (.iload_n 3, 1) := by decide +kernel
theorem dX8_blow_61 : decode cX8_blow 61 = .ok (.ireturn, 1) := by decide +kernel
theorem dX8_undo_0 : decode cX8_undo 0 = .ok (.aload_n 0, 1) := by decide +kernel
theorem dX8_undo_1 : decode cX8_undo 1 = .ok (.iconst 0, 1) := by decide +kernel
theorem dX8_undo_2 : decode cX8_undo 2 = .ok (.putfield 50, 3) := by decide +kernel
theorem dX8_undo_5 : decode cX8_undo 5 = .ok (.aload_n 0, 1) := by decide +kernel
theorem dX8_undo_6 : decode cX8_undo 6 = .ok (.getfield 152, 3) := by decide +kernel
theorem dX8_undo_9 : decode cX8_undo 9 = .ok (.ifCond .ne 6, 3) := by decide +kernel
theorem dX8_undo_12 : decode cX8_undo 12 = .ok (.ldc 198, 2) := by decide +kernel
theorem dX8_undo_14 : decode cX8_undo 14 = .ok (.ireturn, 1) := by decide +kernel
theorem dX8_undo_15 : decode cX8_undo 15 = .ok (.aload_n 0, 1) := by decide +kernel
theorem dX8_undo_16 : decode cX8_undo 16 = .ok (.dup, 1) := by decide +kernel
theorem dX8_undo_17 : decode cX8_undo 17 = .ok (.getfield 152, 3) := by decide +kernel
theorem dX8_undo_20 : decode cX8_undo 20 = .ok (.iconst 1, 1) := by decide +kernel
theorem dX8_undo_21 : decode cX8_undo 21 = .ok (.isub, 1) := by decide +kernel
theorem dX8_undo_22 : decode cX8_undo 22 = .ok (.putfield 152, 3) := by decide +kernel
theorem dX8_undo_25 : decode cX8_undo 25 = .ok (.iconst 0, 1) := by decide +kernel
theorem dX8_undo_26 : decode cX8_undo 26 = .ok (.istore_n 1, 1) := by decide +kernel
theorem dX8_undo_27 : decode cX8_undo 27 = .ok (.iload_n 1, 1) := by decide +kernel
theorem dX8_undo_28 : decode cX8_undo 28 = .ok (.bipush 53, 2) := by decide +kernel
theorem dX8_undo_30 : decode cX8_undo 30 = .ok (.if_icmp .ge 29, 3) := by decide +kernel
theorem dX8_undo_33 : decode cX8_undo 33 = .ok (.aload_n 0, 1) := by decide +kernel
theorem dX8_undo_34 : decode cX8_undo 34 = .ok (.getfield 19, 3) := by decide +kernel
theorem dX8_undo_37 : decode cX8_undo 37 = .ok (.iload_n 1, 1) := by decide +kernel
theorem dX8_undo_38 : decode cX8_undo 38 = .ok (.aload_n 0, 1) := by decide +kernel
theorem dX8_undo_39 : decode cX8_undo 39 = .ok (.getfield 31, 3) := by decide +kernel
theorem dX8_undo_42 : decode cX8_undo 42 = .ok (.bipush 53, 2) := by decide +kernel
theorem dX8_undo_44 : decode cX8_undo 44 = .ok (.aload_n 0, 1) := by decide +kernel
theorem dX8_undo_45 : decode cX8_undo 45 = .ok (.getfield 152, 3) := by decide +kernel
theorem dX8_undo_48 : decode cX8_undo 48 = .ok (.imul, 1) := by decide +kernel
theorem dX8_undo_49 : decode cX8_undo 49 = .ok (.iload_n 1, 1) := by decide +kernel
theorem dX8_undo_50 : decode cX8_undo 50 = .ok (.iadd, 1) := by decide +kernel
theorem dX8_undo_51 : decode cX8_undo 51 = .ok (.iaload, 1) := by decide +kernel
theorem dX8_undo_52 : decode cX8_undo 52 = .ok (.iastore, 1) := by decide +kernel
theorem dX8_undo_53 : decode cX8_undo 53 = .ok (.iinc 1 1, 3) := by decide +kernel
theorem dX8_undo_56 : decode cX8_undo 56 = .ok (.goto (-29), 3) := by decide +kernel
theorem dX8_undo_59 : decode cX8_undo 59 = .ok (.aload_n 0, 1) := by decide +kernel
theorem dX8_undo_60 : decode cX8_undo 60 = .ok (.getfield 152, 3) := by decide +kernel
theorem dX8_undo_63 : decode cX8_undo 63 = .ok (.ireturn, 1) := by decide +kernel
theorem dX8_cellOf_0 : decode cX8_cellOf 0 = .ok (.aload_n 0, 1) := by decide +kernel
theorem dX8_cellOf_1 : decode cX8_cellOf 1 = .ok (.iload_n 1, 1) := by decide +kernel
theorem dX8_cellOf_2 : decode cX8_cellOf 2 = .ok (.iconst 3, 1) := by decide +kernel
theorem dX8_cellOf_3 : decode cX8_cellOf 3 = .ok (.invokestatic 155, 3) := by decide +kernel
theorem dX8_cellOf_6 : decode cX8_cellOf 6 = .ok (.iconst 2, 1) := by decide +kernel
theorem dX8_cellOf_7 : decode cX8_cellOf 7 = .ok (.if_icmp .ne 13, 3) := by decide +kernel
theorem dX8_cellOf_10 : decode cX8_cellOf 10 = .ok (.aload_n 0, 1) := by decide +kernel
theorem dX8_cellOf_11 : decode cX8_cellOf 11 = .ok (.iload_n 1, 1) := by decide +kernel
theorem dX8_cellOf_12 : decode cX8_cellOf 12 = .ok (.bipush 6, 2) := by decide +kernel
theorem dX8_cellOf_14 : decode cX8_cellOf 14 = .ok (.invokestatic 155, 3) := by decide +kernel
theorem dX8_cellOf_17 : decode cX8_cellOf 17 = .ok (.goto 5, 3) := by decide +kernel
theorem dX8_cellOf_20 : decode cX8_cellOf 20 = .ok (.ldc 93, 2) := by decide +kernel
theorem dX8_cellOf_22 : decode cX8_cellOf 22 = .ok (.ireturn, 1) := by decide +kernel
theorem dX8_paper_0 : decode cX8_paper 0 = .ok (.aload_n 0, 1) := by decide +kernel
theorem dX8_paper_1 : decode cX8_paper 1 = .ok (.iconst 0, 1) := by decide +kernel
theorem dX8_paper_2 : decode cX8_paper 2 = .ok (.putfield 50, 3) := by decide +kernel
theorem dX8_paper_5 : decode cX8_paper 5 = .ok (.aload_n 0, 1) := by decide +kernel
theorem dX8_paper_6 : decode cX8_paper 6 = .ok (.iload_n 1, 1) := by decide +kernel
theorem dX8_paper_7 : decode cX8_paper 7 = .ok (.invokevirtual 208, 3) := by decide +kernel
theorem dX8_paper_10 : decode cX8_paper 10 = .ok (.ifCond .ne 6, 3) := by decide +kernel
theorem dX8_paper_13 : decode cX8_paper 13 = .ok (.ldc 70, 2) := by decide +kernel
theorem dX8_paper_15 : decode cX8_paper 15 = .ok (.ireturn, 1) := by decide +kernel
theorem dX8_paper_16 : decode cX8_paper 16 = .ok (.iload_n 2, 1) := by decide +kernel
theorem dX8_paper_17 : decode cX8_paper 17 = .ok (.tableswitch 119 0 6 #[43, 53, 63, 73, 83, 93, 102], 43) := by decide +kernel
theorem dX8_paper_60 : decode cX8_paper 60 = .ok (.aload_n 0, 1) := by decide +kernel
theorem dX8_paper_61 : decode cX8_paper 61 = .ok (.getfield 19, 3) := by decide +kernel
theorem dX8_paper_64 : decode cX8_paper 64 = .ok (.iload_n 1, 1) := by decide +kernel
theorem dX8_paper_65 : decode cX8_paper 65 = .ok (.iconst 1, 1) := by decide +kernel
theorem dX8_paper_66 : decode cX8_paper 66 = .ok (.invokestatic 155, 3) := by decide +kernel
theorem dX8_paper_69 : decode cX8_paper 69 = .ok (.ireturn, 1) := by decide +kernel
theorem dX8_paper_70 : decode cX8_paper 70 = .ok (.aload_n 0, 1) := by decide +kernel
theorem dX8_paper_71 : decode cX8_paper 71 = .ok (.getfield 19, 3) := by decide +kernel
theorem dX8_paper_74 : decode cX8_paper 74 = .ok (.iload_n 1, 1) := by decide +kernel
theorem dX8_paper_75 : decode cX8_paper 75 = .ok (.iconst 2, 1) := by decide +kernel
theorem dX8_paper_76 : decode cX8_paper 76 = .ok (.invokestatic 155, 3) := by decide +kernel
theorem dX8_paper_79 : decode cX8_paper 79 = .ok (.ireturn, 1) := by decide +kernel
theorem dX8_paper_80 : decode cX8_paper 80 = .ok (.aload_n 0, 1) := by decide +kernel
theorem dX8_paper_81 : decode cX8_paper 81 = .ok (.getfield 19, 3) := by decide +kernel
theorem dX8_paper_84 : decode cX8_paper 84 = .ok (.iload_n 1, 1) := by decide +kernel
theorem dX8_paper_85 : decode cX8_paper 85 = .ok (.iconst 3, 1) := by decide +kernel
theorem dX8_paper_86 : decode cX8_paper 86 = .ok (.invokestatic 155, 3) := by decide +kernel
theorem dX8_paper_89 : decode cX8_paper 89 = .ok (.ireturn, 1) := by decide +kernel
theorem dX8_paper_90 : decode cX8_paper 90 = .ok (.aload_n 0, 1) := by decide +kernel
theorem dX8_paper_91 : decode cX8_paper 91 = .ok (.getfield 19, 3) := by decide +kernel
theorem dX8_paper_94 : decode cX8_paper 94 = .ok (.iload_n 1, 1) := by decide +kernel
theorem dX8_paper_95 : decode cX8_paper 95 = .ok (.iconst 4, 1) := by decide +kernel
theorem dX8_paper_96 : decode cX8_paper 96 = .ok (.invokestatic 155, 3) := by decide +kernel
theorem dX8_paper_99 : decode cX8_paper 99 = .ok (.ireturn, 1) := by decide +kernel
theorem dX8_paper_100 : decode cX8_paper 100 = .ok (.aload_n 0, 1) := by decide +kernel
theorem dX8_paper_101 : decode cX8_paper 101 = .ok (.getfield 19, 3) := by decide +kernel
theorem dX8_paper_104 : decode cX8_paper 104 = .ok (.iload_n 1, 1) := by decide +kernel
theorem dX8_paper_105 : decode cX8_paper 105 = .ok (.iconst 5, 1) := by decide +kernel
theorem dX8_paper_106 : decode cX8_paper 106 = .ok (.invokestatic 155, 3) := by decide +kernel
theorem dX8_paper_109 : decode cX8_paper 109 = .ok (.ireturn, 1) := by decide +kernel
theorem dX8_paper_110 : decode cX8_paper 110 = .ok (.aload_n 0, 1) := by decide +kernel
theorem dX8_paper_111 : decode cX8_paper 111 = .ok (.getfield 19, 3) := by decide +kernel
theorem dX8_paper_114 : decode cX8_paper 114 = .ok (.iload_n 1, 1) := by decide +kernel
theorem dX8_paper_115 : decode cX8_paper 115 = .ok (.invokestatic 229, 3) := by decide +kernel
theorem dX8_paper_118 : decode cX8_paper 118 = .ok (.ireturn, 1) := by decide +kernel
theorem dX8_paper_119 : decode cX8_paper 119 = .ok (.aload_n 0, 1) := by decide +kernel
theorem dX8_paper_120 : decode cX8_paper 120 = .ok (.getfield 19, 3) := by decide +kernel
theorem dX8_paper_123 : decode cX8_paper 123 = .ok (.iload_n 1, 1) := by decide +kernel
theorem dX8_paper_124 : decode cX8_paper 124 = .ok (.invokestatic 192, 3) := by decide +kernel
theorem dX8_paper_127 : decode cX8_paper 127 = .ok (.ifCond .eq 7, 3) := by decide +kernel
theorem dX8_paper_130 : decode cX8_paper 130 = .ok (.iconst 1, 1) := by decide +kernel
theorem dX8_paper_131 : decode cX8_paper 131 = .ok (.goto 4, 3) := by decide +kernel
theorem dX8_paper_134 : decode cX8_paper 134 = .ok (.iconst 0, 1) := by decide +kernel
theorem dX8_paper_135 : decode cX8_paper 135 = .ok (.ireturn, 1) := by decide +kernel
theorem dX8_paper_136 : decode cX8_paper 136 = .ok (.ldc 70, 2) := by decide +kernel
theorem dX8_paper_138 : decode cX8_paper 138 = .ok (.ireturn, 1) := by decide +kernel
theorem dX8_force_0 : decode cX8_force 0 = .ok (.aload_n 0, 1) := by decide +kernel
theorem dX8_force_1 : decode cX8_force 1 = .ok (.iconst 0, 1) := by decide +kernel
theorem dX8_force_2 : decode cX8_force 2 = .ok (.putfield 50, 3) := by decide +kernel
theorem dX8_force_5 : decode cX8_force 5 = .ok (.aload_n 0, 1) := by decide +kernel
theorem dX8_force_6 : decode cX8_force 6 = .ok (.invokevirtual 195, 3) := by decide +kernel
theorem dX8_force_9 : decode cX8_force 9 = .ok (.ifCond .ne 6, 3) := by decide +kernel
theorem dX8_force_12 : decode cX8_force 12 = .ok (.ldc 198, 2) := by decide +kernel
theorem dX8_force_14 : decode cX8_force 14 = .ok (.ireturn, 1) := by decide +kernel
theorem dX8_force_15 : decode cX8_force 15 = .ok (.iload_n 1, 1) := by decide +kernel
theorem dX8_force_16 : decode cX8_force 16 = .ok (.i2l, 1) := by decide +kernel
theorem dX8_force_17 : decode cX8_force 17 = .ok (.lconst 0, 1) := by decide +kernel
theorem dX8_force_18 : decode cX8_force 18 = .ok (.ldc2_w 225, 3) := by decide +kernel
theorem dX8_force_21 : decode cX8_force 21 = .ok (.invokestatic 60, 3) := by decide +kernel
theorem dX8_force_24 : decode cX8_force 24 = .ok (.ifCond .eq 21, 3) := by decide +kernel
theorem dX8_force_27 : decode cX8_force 27 = .ok (.aload_n 0, 1) := by decide +kernel
theorem dX8_force_28 : decode cX8_force 28 = .ok (.getfield 19, 3) := by decide +kernel
theorem dX8_force_31 : decode cX8_force 31 = .ok (.aload_n 0, 1) := by decide +kernel
theorem dX8_force_32 : decode cX8_force 32 = .ok (.getfield 19, 3) := by decide +kernel
theorem dX8_force_35 : decode cX8_force 35 = .ok (.iconst 4, 1) := by decide +kernel
theorem dX8_force_36 : decode cX8_force 36 = .ok (.iaload, 1) := by decide +kernel
theorem dX8_force_37 : decode cX8_force 37 = .ok (.iload_n 1, 1) := by decide +kernel
theorem dX8_force_38 : decode cX8_force 38 = .ok (.iadd, 1) := by decide +kernel
theorem dX8_force_39 : decode cX8_force 39 = .ok (.invokestatic 180, 3) := by decide +kernel
theorem dX8_force_42 : decode cX8_force 42 = .ok (.goto 5, 3) := by decide +kernel
theorem dX8_force_45 : decode cX8_force 45 = .ok (.ldc 70, 2) := by decide +kernel
theorem dX8_force_47 : decode cX8_force 47 = .ok (.ireturn, 1) := by decide +kernel
theorem dX8_stand_0 : decode cX8_stand 0 = .ok (.aload_n 0, 1) := by decide +kernel
theorem dX8_stand_1 : decode cX8_stand 1 = .ok (.iconst 0, 1) := by decide +kernel
theorem dX8_stand_2 : decode cX8_stand 2 = .ok (.putfield 50, 3) := by decide +kernel
theorem dX8_stand_5 : decode cX8_stand 5 = .ok (.aload_n 0, 1) := by decide +kernel
theorem dX8_stand_6 : decode cX8_stand 6 = .ok (.invokevirtual 195, 3) := by decide +kernel
theorem dX8_stand_9 : decode cX8_stand 9 = .ok (.ifCond .ne 6, 3) := by decide +kernel
theorem dX8_stand_12 : decode cX8_stand 12 = .ok (.ldc 198, 2) := by decide +kernel
theorem dX8_stand_14 : decode cX8_stand 14 = .ok (.ireturn, 1) := by decide +kernel
theorem dX8_stand_15 : decode cX8_stand 15 = .ok (.iload_n 1, 1) := by decide +kernel
theorem dX8_stand_16 : decode cX8_stand 16 = .ok (.tableswitch 76 0 4 #[36, 45, 53, 62, 69], 36) := by decide +kernel
theorem dX8_stand_52 : decode cX8_stand 52 = .ok (.aload_n 0, 1) := by decide +kernel
theorem dX8_stand_53 : decode cX8_stand 53 = .ok (.getfield 19, 3) := by decide +kernel
theorem dX8_stand_56 : decode cX8_stand 56 = .ok (.iconst 1, 1) := by decide +kernel
theorem dX8_stand_57 : decode cX8_stand 57 = .ok (.invokestatic 217, 3) := by decide +kernel
theorem dX8_stand_60 : decode cX8_stand 60 = .ok (.ireturn, 1) := by decide +kernel
theorem dX8_stand_61 : decode cX8_stand 61 = .ok (.aload_n 0, 1) := by decide +kernel
theorem dX8_stand_62 : decode cX8_stand 62 = .ok (.getfield 19, 3) := by decide +kernel
theorem dX8_stand_65 : decode cX8_stand 65 = .ok (.invokestatic 204, 3) := by decide +kernel
theorem dX8_stand_68 : decode cX8_stand 68 = .ok (.ireturn, 1) := by decide +kernel
theorem dX8_stand_69 : decode cX8_stand 69 = .ok (.aload_n 0, 1) := by decide +kernel
theorem dX8_stand_70 : decode cX8_stand 70 = .ok (.getfield 19, 3) := by decide +kernel
theorem dX8_stand_73 : decode cX8_stand 73 = .ok (.iconst 2, 1) := by decide +kernel
theorem dX8_stand_74 : decode cX8_stand 74 = .ok (.invokestatic 217, 3) := by decide +kernel
theorem dX8_stand_77 : decode cX8_stand 77 = .ok (.ireturn, 1) := by decide +kernel
theorem dX8_stand_78 : decode cX8_stand 78 = .ok (.aload_n 0, 1) := by decide +kernel
theorem dX8_stand_79 : decode cX8_stand 79 = .ok (.getfield 19, 3) := by decide +kernel
theorem dX8_stand_82 : decode cX8_stand 82 = .ok (.iconst 2, 1) := by decide +kernel
theorem dX8_stand_83 : decode cX8_stand 83 = .ok (.iaload, 1) := by decide +kernel
theorem dX8_stand_84 : decode cX8_stand 84 = .ok (.ireturn, 1) := by decide +kernel
theorem dX8_stand_85 : decode cX8_stand 85 = .ok (.aload_n 0, 1) := by decide +kernel
theorem dX8_stand_86 : decode cX8_stand 86 = .ok (.getfield 19, 3) := by decide +kernel
theorem dX8_stand_89 : decode cX8_stand 89 = .ok (.iconst 3, 1) := by decide +kernel
theorem dX8_stand_90 : decode cX8_stand 90 = .ok (.iaload, 1) := by decide +kernel
theorem dX8_stand_91 : decode cX8_stand 91 = .ok (.ireturn, 1) := by decide +kernel
theorem dX8_stand_92 : decode cX8_stand 92 = .ok (.ldc 70, 2) := by decide +kernel
theorem dX8_stand_94 : decode cX8_stand 94 = .ok (.ireturn, 1) := by decide +kernel
theorem dX8_ahead_0 : decode cX8_ahead 0 = .ok (.aload_n 0, 1) := by decide +kernel
theorem dX8_ahead_1 : decode cX8_ahead 1 = .ok (.iconst 0, 1) := by decide +kernel
theorem dX8_ahead_2 : decode cX8_ahead 2 = .ok (.putfield 50, 3) := by decide +kernel
theorem dX8_ahead_5 : decode cX8_ahead 5 = .ok (.aload_n 0, 1) := by decide +kernel
theorem dX8_ahead_6 : decode cX8_ahead 6 = .ok (.iload_n 1, 1) := by decide +kernel
theorem dX8_ahead_7 : decode cX8_ahead 7 = .ok (.invokevirtual 208, 3) := by decide +kernel
theorem dX8_ahead_10 : decode cX8_ahead 10 = .ok (.ifCond .eq 27, 3) := by decide +kernel
theorem dX8_ahead_13 : decode cX8_ahead 13 = .ok (.iload_n 2, 1) := by decide +kernel
theorem dX8_ahead_14 : decode cX8_ahead 14 = .ok (.i2l, 1) := by decide +kernel
theorem dX8_ahead_15 : decode cX8_ahead 15 = .ok (.lconst 0, 1) := by decide +kernel
theorem dX8_ahead_16 : decode cX8_ahead 16 = .ok (.ldc2_w 225, 3) := by decide +kernel
theorem dX8_ahead_19 : decode cX8_ahead 19 = .ok (.invokestatic 60, 3) := by decide +kernel
theorem dX8_ahead_22 : decode cX8_ahead 22 = .ok (.ifCond .eq 15, 3) := by decide +kernel
theorem dX8_ahead_25 : decode cX8_ahead 25 = .ok (.iload_n 3, 1) := by decide +kernel
theorem dX8_ahead_26 : decode cX8_ahead 26 = .ok (.i2l, 1) := by decide +kernel
theorem dX8_ahead_27 : decode cX8_ahead 27 = .ok (.lconst 0, 1) := by decide +kernel
theorem dX8_ahead_28 : decode cX8_ahead 28 = .ok (.ldc2_w 68, 3) := by decide +kernel
theorem dX8_ahead_31 : decode cX8_ahead 31 = .ok (.invokestatic 60, 3) := by decide +kernel
theorem dX8_ahead_34 : decode cX8_ahead 34 = .ok (.ifCond .ne 6, 3) := by decide +kernel
theorem dX8_ahead_37 : decode cX8_ahead 37 = .ok (.ldc 70, 2) := by decide +kernel
theorem dX8_ahead_39 : decode cX8_ahead 39 = .ok (.ireturn, 1) := by decide +kernel
theorem dX8_ahead_40 : decode cX8_ahead 40 = .ok (.aload_n 0, 1) := by decide +kernel
theorem dX8_ahead_41 : decode cX8_ahead 41 = .ok (.invokevirtual 232, 3) := by decide +kernel
theorem dX8_ahead_44 : decode cX8_ahead 44 = .ok (.aload_n 0, 1) := by decide +kernel
theorem dX8_ahead_45 : decode cX8_ahead 45 = .ok (.aload_n 0, 1) := by decide +kernel
theorem dX8_ahead_46 : decode cX8_ahead 46 = .ok (.getfield 25, 3) := by decide +kernel
theorem dX8_ahead_49 : decode cX8_ahead 49 = .ok (.iload_n 2, 1) := by decide +kernel
theorem dX8_ahead_50 : decode cX8_ahead 50 = .ok (.invokevirtual 235, 3) := by decide +kernel
theorem dX8_ahead_53 : decode cX8_ahead 53 = .ok (.iload_n 3, 1) := by decide +kernel
theorem dX8_ahead_54 : decode cX8_ahead 54 = .ok (.ifCond .ne 15, 3) := by decide +kernel
theorem dX8_ahead_57 : decode cX8_ahead 57 = .ok (.aload_n 0, 1) := by decide +kernel
theorem dX8_ahead_58 : decode cX8_ahead 58 = .ok (.getfield 25, 3) := by decide +kernel
theorem dX8_ahead_61 : decode cX8_ahead 61 = .ok (.iload_n 1, 1) := by decide +kernel
theorem dX8_ahead_62 : decode cX8_ahead 62 = .ok (.iconst 4, 1) := by decide +kernel
theorem dX8_ahead_63 : decode cX8_ahead 63 = .ok (.invokestatic 155, 3) := by decide +kernel
theorem dX8_ahead_66 : decode cX8_ahead 66 = .ok (.goto 28, 3) := by decide +kernel
theorem dX8_ahead_69 : decode cX8_ahead 69 = .ok (.iload_n 3, 1) := by decide +kernel
theorem dX8_ahead_70 : decode cX8_ahead 70 = .ok (.iconst 1, 1) := by decide +kernel
theorem dX8_ahead_71 : decode cX8_ahead 71 = .ok (.if_icmp .ne 15, 3) := by decide +kernel
theorem dX8_ahead_74 : decode cX8_ahead 74 = .ok (.aload_n 0, 1) := by decide +kernel
theorem dX8_ahead_75 : decode cX8_ahead 75 = .ok (.getfield 25, 3) := by decide +kernel
theorem dX8_ahead_78 : decode cX8_ahead 78 = .ok (.iload_n 1, 1) := by decide +kernel
theorem dX8_ahead_79 : decode cX8_ahead 79 = .ok (.iconst 5, 1) := by decide +kernel
theorem dX8_ahead_80 : decode cX8_ahead 80 = .ok (.invokestatic 155, 3) := by decide +kernel
theorem dX8_ahead_83 : decode cX8_ahead 83 = .ok (.goto 11, 3) := by decide +kernel
theorem dX8_ahead_86 : decode cX8_ahead 86 = .ok (.aload_n 0, 1) := by decide +kernel
theorem dX8_ahead_87 : decode cX8_ahead 87 = .ok (.getfield 25, 3) := by decide +kernel
theorem dX8_ahead_90 : decode cX8_ahead 90 = .ok (.iload_n 1, 1) := by decide +kernel
theorem dX8_ahead_91 : decode cX8_ahead 91 = .ok (.invokestatic 229, 3) := by decide +kernel
theorem dX8_ahead_94 : decode cX8_ahead 94 = .ok (.ireturn, 1) := by decide +kernel
theorem dX8_when_0 : decode cX8_when 0 = .ok (.aload_n 0, 1) := by decide +kernel
theorem dX8_when_1 : decode cX8_when 1 = .ok (.iconst 0, 1) := by decide +kernel
theorem dX8_when_2 : decode cX8_when 2 = .ok (.putfield 50, 3) := by decide +kernel
theorem dX8_when_5 : decode cX8_when 5 = .ok (.aload_n 0, 1) := by decide +kernel
theorem dX8_when_6 : decode cX8_when 6 = .ok (.iload_n 1, 1) := by decide +kernel
theorem dX8_when_7 : decode cX8_when 7 = .ok (.invokevirtual 208, 3) := by decide +kernel
theorem dX8_when_10 : decode cX8_when 10 = .ok (.ifCond .eq 15, 3) := by decide +kernel
theorem dX8_when_13 : decode cX8_when 13 = .ok (.iload_n 2, 1) := by decide +kernel
theorem dX8_when_14 : decode cX8_when 14 = .ok (.i2l, 1) := by decide +kernel
theorem dX8_when_15 : decode cX8_when 15 = .ok (.lconst 1, 1) := by decide +kernel
theorem dX8_when_16 : decode cX8_when 16 = .ok (.ldc2_w 68, 3) := by decide +kernel
theorem dX8_when_19 : decode cX8_when 19 = .ok (.invokestatic 60, 3) := by decide +kernel
theorem dX8_when_22 : decode cX8_when 22 = .ok (.ifCond .ne 6, 3) := by decide +kernel
theorem dX8_when_25 : decode cX8_when 25 = .ok (.ldc 70, 2) := by decide +kernel
theorem dX8_when_27 : decode cX8_when 27 = .ok (.ireturn, 1) := by decide +kernel
theorem dX8_when_28 : decode cX8_when 28 = .ok (.aload_n 0, 1) := by decide +kernel
theorem dX8_when_29 : decode cX8_when 29 = .ok (.invokevirtual 232, 3) := by decide +kernel
theorem dX8_when_32 : decode cX8_when 32 = .ok (.iconst 0, 1) := by decide +kernel
theorem dX8_when_33 : decode cX8_when 33 = .ok (.istore_n 3, 1) := by decide +kernel
theorem dX8_when_34 : decode cX8_when 34 = .ok (.iload_n 3, 1) := by decide +kernel
theorem dX8_when_35 : decode cX8_when 35 = .ok (.bipush 60, 2) := by decide +kernel
theorem dX8_when_37 : decode cX8_when 37 = .ok (.if_icmp .gt 51, 3) := by decide +kernel
theorem dX8_when_40 : decode cX8_when 40 = .ok (.iload_n 2, 1) := by decide +kernel
theorem dX8_when_41 : decode cX8_when 41 = .ok (.iconst 1, 1) := by decide +kernel
theorem dX8_when_42 : decode cX8_when 42 = .ok (.if_icmp .ne 17, 3) := by decide +kernel
theorem dX8_when_45 : decode cX8_when 45 = .ok (.aload_n 0, 1) := by decide +kernel
theorem dX8_when_46 : decode cX8_when 46 = .ok (.getfield 25, 3) := by decide +kernel
theorem dX8_when_49 : decode cX8_when 49 = .ok (.iload_n 1, 1) := by decide +kernel
theorem dX8_when_50 : decode cX8_when 50 = .ok (.invokestatic 192, 3) := by decide +kernel
theorem dX8_when_53 : decode cX8_when 53 = .ok (.ifCond .eq 21, 3) := by decide +kernel
theorem dX8_when_56 : decode cX8_when 56 = .ok (.goto 16, 3) := by decide +kernel
theorem dX8_when_59 : decode cX8_when 59 = .ok (.aload_n 0, 1) := by decide +kernel
theorem dX8_when_60 : decode cX8_when 60 = .ok (.getfield 25, 3) := by decide +kernel
theorem dX8_when_63 : decode cX8_when 63 = .ok (.iload_n 1, 1) := by decide +kernel
theorem dX8_when_64 : decode cX8_when 64 = .ok (.iconst 3, 1) := by decide +kernel
theorem dX8_when_65 : decode cX8_when 65 = .ok (.invokestatic 155, 3) := by decide +kernel
theorem dX8_when_68 : decode cX8_when 68 = .ok (.iconst 2, 1) := by decide +kernel
theorem dX8_when_69 : decode cX8_when 69 = .ok (.if_icmp .ne 5, 3) := by decide +kernel
theorem dX8_when_72 : decode cX8_when 72 = .ok (.iload_n 3, 1) := by decide +kernel
theorem dX8_when_73 : decode cX8_when 73 = .ok (.ireturn, 1) := by decide +kernel
theorem dX8_when_74 : decode cX8_when 74 = .ok (.aload_n 0, 1) := by decide +kernel
theorem dX8_when_75 : decode cX8_when 75 = .ok (.aload_n 0, 1) := by decide +kernel
theorem dX8_when_76 : decode cX8_when 76 = .ok (.getfield 25, 3) := by decide +kernel
theorem dX8_when_79 : decode cX8_when 79 = .ok (.invokevirtual 188, 3) := by decide +kernel
theorem dX8_when_82 : decode cX8_when 82 = .ok (.iinc 3 1, 3) := by decide +kernel
theorem dX8_when_85 : decode cX8_when 85 = .ok (.goto (-51), 3) := by decide +kernel
theorem dX8_when_88 : decode cX8_when 88 = .ok (.ldc 93, 2) := by decide +kernel
theorem dX8_when_90 : decode cX8_when 90 = .ok (.ireturn, 1) := by decide +kernel
theorem dX8_policy_0 : decode cX8_policy 0 = .ok (.aload_n 0, 1) := by decide +kernel
theorem dX8_policy_1 : decode cX8_policy 1 = .ok (.iconst 0, 1) := by decide +kernel
theorem dX8_policy_2 : decode cX8_policy 2 = .ok (.putfield 50, 3) := by decide +kernel
theorem dX8_policy_5 : decode cX8_policy 5 = .ok (.aload_n 0, 1) := by decide +kernel
theorem dX8_policy_6 : decode cX8_policy 6 = .ok (.invokevirtual 195, 3) := by decide +kernel
theorem dX8_policy_9 : decode cX8_policy 9 = .ok (.ifCond .ne 6, 3) := by decide +kernel
theorem dX8_policy_12 : decode cX8_policy 12 = .ok (.ldc 198, 2) := by decide +kernel
theorem dX8_policy_14 : decode cX8_policy 14 = .ok (.ireturn, 1) := by decide +kernel
theorem dX8_policy_15 : decode cX8_policy 15 = .ok (.iload_n 1, 1) := by decide +kernel
theorem dX8_policy_16 : decode cX8_policy 16 = .ok (.i2l, 1) := by decide +kernel
theorem dX8_policy_17 : decode cX8_policy 17 = .ok (.lconst 0, 1) := by decide +kernel
theorem dX8_policy_18 : decode cX8_policy 18 = .ok (.ldc2_w 225, 3) := by decide +kernel
theorem dX8_policy_21 : decode cX8_policy 21 = .ok (.invokestatic 60, 3) := by decide +kernel
theorem dX8_policy_24 : decode cX8_policy 24 = .ok (.ifCond .ne 6, 3) := by decide +kernel
theorem dX8_policy_27 : decode cX8_policy 27 = .ok (.ldc 70, 2) := by decide +kernel
theorem dX8_policy_29 : decode cX8_policy 29 = .ok (.ireturn, 1) := by decide +kernel
theorem dX8_policy_30 : decode cX8_policy 30 = .ok (.aload_n 0, 1) := by decide +kernel
theorem dX8_policy_31 : decode cX8_policy 31 = .ok (.invokevirtual 232, 3) := by decide +kernel
theorem dX8_policy_34 : decode cX8_policy 34 = .ok (.aload_n 0, 1) := by decide +kernel
theorem dX8_policy_35 : decode cX8_policy 35 = .ok (.aload_n 0, 1) := by decide +kernel
theorem dX8_policy_36 : decode cX8_policy 36 = .ok (.getfield 25, 3) := by decide +kernel
theorem dX8_policy_39 : decode cX8_policy 39 = .ok (.iload_n 1, 1) := by decide +kernel
theorem dX8_policy_40 : decode cX8_policy 40 = .ok (.invokevirtual 235, 3) := by decide +kernel
theorem dX8_policy_43 : decode cX8_policy 43 = .ok (.aload_n 0, 1) := by decide +kernel
theorem dX8_policy_44 : decode cX8_policy 44 = .ok (.getfield 25, 3) := by decide +kernel
theorem dX8_policy_47 : decode cX8_policy 47 = .ok (.invokestatic 204, 3) := by decide +kernel
theorem dX8_policy_50 : decode cX8_policy 50 = .ok (.ireturn, 1) := by decide +kernel
theorem dX8_pull_0 : decode cX8_pull 0 = .ok (.aload_n 0, 1) := by decide +kernel
theorem dX8_pull_1 : decode cX8_pull 1 = .ok (.iconst 0, 1) := by decide +kernel
theorem dX8_pull_2 : decode cX8_pull 2 = .ok (.putfield 50, 3) := by decide +kernel
theorem dX8_pull_5 : decode cX8_pull 5 = .ok (.aload_n 0, 1) := by decide +kernel
theorem dX8_pull_6 : decode cX8_pull 6 = .ok (.iload_n 1, 1) := by decide +kernel
theorem dX8_pull_7 : decode cX8_pull 7 = .ok (.invokevirtual 208, 3) := by decide +kernel
theorem dX8_pull_10 : decode cX8_pull 10 = .ok (.ifCond .ne 6, 3) := by decide +kernel
theorem dX8_pull_13 : decode cX8_pull 13 = .ok (.ldc 70, 2) := by decide +kernel
theorem dX8_pull_15 : decode cX8_pull 15 = .ok (.ireturn, 1) := by decide +kernel
theorem dX8_pull_16 : decode cX8_pull 16 = .ok (.aload_n 0, 1) := by decide +kernel
theorem dX8_pull_17 : decode cX8_pull 17 = .ok (.getfield 19, 3) := by decide +kernel
theorem dX8_pull_20 : decode cX8_pull 20 = .ok (.iload_n 1, 1) := by decide +kernel
theorem dX8_pull_21 : decode cX8_pull 21 = .ok (.invokestatic 159, 3) := by decide +kernel
theorem dX8_pull_24 : decode cX8_pull 24 = .ok (.ifCond .eq 27, 3) := by decide +kernel
theorem dX8_pull_27 : decode cX8_pull 27 = .ok (.aload_n 0, 1) := by decide +kernel
theorem dX8_pull_28 : decode cX8_pull 28 = .ok (.getfield 19, 3) := by decide +kernel
theorem dX8_pull_31 : decode cX8_pull 31 = .ok (.iload_n 1, 1) := by decide +kernel
theorem dX8_pull_32 : decode cX8_pull 32 = .ok (.aload_n 0, 1) := by decide +kernel
theorem dX8_pull_33 : decode cX8_pull 33 = .ok (.getfield 19, 3) := by decide +kernel
theorem dX8_pull_36 : decode cX8_pull 36 = .ok (.aload_n 0, 1) := by decide +kernel
theorem dX8_pull_37 : decode cX8_pull 37 = .ok (.getfield 19, 3) := by decide +kernel
theorem dX8_pull_40 : decode cX8_pull 40 = .ok (.iconst 4, 1) := by decide +kernel
theorem dX8_pull_41 : decode cX8_pull 41 = .ok (.iaload, 1) := by decide +kernel
theorem dX8_pull_42 : decode cX8_pull 42 = .ok (.invokestatic 180, 3) := by decide +kernel
theorem dX8_pull_45 : decode cX8_pull 45 = .ok (.invokestatic 174, 3) := by decide +kernel
theorem dX8_pull_48 : decode cX8_pull 48 = .ok (.goto 5, 3) := by decide +kernel
theorem dX8_pull_51 : decode cX8_pull 51 = .ok (.ldc 198, 2) := by decide +kernel
theorem dX8_pull_53 : decode cX8_pull 53 = .ok (.ireturn, 1) := by decide +kernel
theorem dX8_sends_0 : decode cX8_sends 0 = .ok (.aload_n 0, 1) := by decide +kernel
theorem dX8_sends_1 : decode cX8_sends 1 = .ok (.iconst 0, 1) := by decide +kernel
theorem dX8_sends_2 : decode cX8_sends 2 = .ok (.putfield 50, 3) := by decide +kernel
theorem dX8_sends_5 : decode cX8_sends 5 = .ok (.aload_n 0, 1) := by decide +kernel
theorem dX8_sends_6 : decode cX8_sends 6 = .ok (.invokevirtual 195, 3) := by decide +kernel
theorem dX8_sends_9 : decode cX8_sends 9 = .ok (.ifCond .ne 6, 3) := by decide +kernel
theorem dX8_sends_12 : decode cX8_sends 12 = .ok (.ldc 198, 2) := by decide +kernel
theorem dX8_sends_14 : decode cX8_sends 14 = .ok (.ireturn, 1) := by decide +kernel
theorem dX8_sends_15 : decode cX8_sends 15 = .ok (.iload_n 1, 1) := by decide +kernel
theorem dX8_sends_16 : decode cX8_sends 16 = .ok (.i2l, 1) := by decide +kernel
theorem dX8_sends_17 : decode cX8_sends 17 = .ok (.lconst 1, 1) := by decide +kernel
theorem dX8_sends_18 : decode cX8_sends 18 = .ok (.ldc2_w 238, 3) := by decide +kernel
theorem dX8_sends_21 : decode cX8_sends 21 = .ok (.invokestatic 60, 3) := by decide +kernel
theorem dX8_sends_24 : decode cX8_sends 24 = .ok (.ifCond .eq 25, 3) := by decide +kernel
theorem dX8_sends_27 : decode cX8_sends 27 = .ok (.iload_n 2, 1) := by decide +kernel
theorem dX8_sends_28 : decode cX8_sends 28 = .ok (.i2l, 1) := by decide +kernel
theorem dX8_sends_29 : decode cX8_sends 29 = .ok (.lconst 1, 1) := by decide +kernel
theorem dX8_sends_30 : decode cX8_sends 30 = .ok (.ldc2_w 211, 3) := by decide +kernel
theorem dX8_sends_33 : decode cX8_sends 33 = .ok (.invokestatic 60, 3) := by decide +kernel
theorem dX8_sends_36 : decode cX8_sends 36 = .ok (.ifCond .eq 13, 3) := by decide +kernel
theorem dX8_sends_39 : decode cX8_sends 39 = .ok (.iload_n 3, 1) := by decide +kernel
theorem dX8_sends_40 : decode cX8_sends 40 = .ok (.i2l, 1) := by decide +kernel
theorem dX8_sends_41 : decode cX8_sends 41 = .ok (.lconst 0, 1) := by decide +kernel
theorem dX8_sends_42 : decode cX8_sends 42 = .ok (.lconst 1, 1) := by decide +kernel
theorem dX8_sends_43 : decode cX8_sends 43 = .ok (.invokestatic 60, 3) := by decide +kernel
theorem dX8_sends_46 : decode cX8_sends 46 = .ok (.ifCond .ne 6, 3) := by decide +kernel
theorem dX8_sends_49 : decode cX8_sends 49 = .ok (.ldc 70, 2) := by decide +kernel
theorem dX8_sends_51 : decode cX8_sends 51 = .ok (.ireturn, 1) := by decide +kernel
theorem dX8_sends_52 : decode cX8_sends 52 = .ok (.iconst 0, 1) := by decide +kernel
theorem dX8_sends_53 : decode cX8_sends 53 = .ok (.istore 4, 2) := by decide +kernel
theorem dX8_sends_55 : decode cX8_sends 55 = .ok (.iconst (-1), 1) := by decide +kernel
theorem dX8_sends_56 : decode cX8_sends 56 = .ok (.istore 5, 2) := by decide +kernel
theorem dX8_sends_58 : decode cX8_sends 58 = .ok (.iconst 0, 1) := by decide +kernel
theorem dX8_sends_59 : decode cX8_sends 59 = .ok (.istore 6, 2) := by decide +kernel
theorem dX8_sends_61 : decode cX8_sends 61 = .ok (.iload 6, 2) := by decide +kernel
theorem dX8_sends_63 : decode cX8_sends 63 = .ok (.iconst 1, 1) := by decide +kernel
theorem dX8_sends_64 : decode cX8_sends 64 = .ok (.aload_n 0, 1) := by decide +kernel
theorem dX8_sends_65 : decode cX8_sends 65 = .ok (.getfield 19, 3) := by decide +kernel
theorem dX8_sends_68 : decode cX8_sends 68 = .ok (.iconst 0, 1) := by decide +kernel
theorem dX8_sends_69 : decode cX8_sends 69 = .ok (.iaload, 1) := by decide +kernel
theorem dX8_sends_70 : decode cX8_sends 70 = .ok (.ishl, 1) := by decide +kernel
theorem dX8_sends_71 : decode cX8_sends 71 = .ok (.if_icmp .ge 125, 3) := by decide +kernel
theorem dX8_sends_74 : decode cX8_sends 74 = .ok (.iload 6, 2) := by decide +kernel
theorem dX8_sends_76 : decode cX8_sends 76 = .ok (.aload_n 0, 1) := by decide +kernel
theorem dX8_sends_77 : decode cX8_sends 77 = .ok (.getfield 19, 3) := by decide +kernel
theorem dX8_sends_80 : decode cX8_sends 80 = .ok (.iconst 0, 1) := by decide +kernel
theorem dX8_sends_81 : decode cX8_sends 81 = .ok (.invokestatic 217, 3) := by decide +kernel
theorem dX8_sends_84 : decode cX8_sends 84 = .ok (.iconst (-1), 1) := by decide +kernel
theorem dX8_sends_85 : decode cX8_sends 85 = .ok (.ixor, 1) := by decide +kernel
theorem dX8_sends_86 : decode cX8_sends 86 = .ok (.iand, 1) := by decide +kernel
theorem dX8_sends_87 : decode cX8_sends 87 = .ok (.ifCond .ne 103, 3) := by decide +kernel
theorem dX8_sends_90 : decode cX8_sends 90 = .ok (.aload_n 0, 1) := by decide +kernel
theorem dX8_sends_91 : decode cX8_sends 91 = .ok (.invokevirtual 232, 3) := by decide +kernel
theorem dX8_sends_94 : decode cX8_sends 94 = .ok (.iconst 0, 1) := by decide +kernel
theorem dX8_sends_95 : decode cX8_sends 95 = .ok (.istore 7, 2) := by decide +kernel
theorem dX8_sends_97 : decode cX8_sends 97 = .ok (.iload 7, 2) := by decide +kernel
theorem dX8_sends_99 : decode cX8_sends 99 = .ok (.aload_n 0, 1) := by decide +kernel
theorem dX8_sends_100 : decode cX8_sends 100 = .ok (.getfield 19, 3) := by decide +kernel
theorem dX8_sends_103 : decode cX8_sends 103 = .ok (.iconst 0, 1) := by decide +kernel
theorem dX8_sends_104 : decode cX8_sends 104 = .ok (.iaload, 1) := by decide +kernel
theorem dX8_sends_105 : decode cX8_sends 105 = .ok (.if_icmp .ge 29, 3) := by decide +kernel
theorem dX8_sends_108 : decode cX8_sends 108 = .ok (.iload 6, 2) := by decide +kernel
theorem dX8_sends_110 : decode cX8_sends 110 = .ok (.iload 7, 2) := by decide +kernel
theorem dX8_sends_112 : decode cX8_sends 112 = .ok (.invokestatic 240, 3) := by decide +kernel
theorem dX8_sends_115 : decode cX8_sends 115 = .ok (.ifCond .eq 13, 3) := by decide +kernel
theorem dX8_sends_118 : decode cX8_sends 118 = .ok (.aload_n 0, 1) := by decide +kernel
theorem dX8_sends_119 : decode cX8_sends 119 = .ok (.getfield 25, 3) := by decide +kernel
theorem dX8_sends_122 : decode cX8_sends 122 = .ok (.iload 7, 2) := by decide +kernel
theorem dX8_sends_124 : decode cX8_sends 124 = .ok (.iload_n 2, 1) := by decide +kernel
theorem dX8_sends_125 : decode cX8_sends 125 = .ok (.invokestatic 213, 3) := by decide +kernel
theorem dX8_sends_128 : decode cX8_sends 128 = .ok (.iinc 7 1, 3) := by decide +kernel
theorem dX8_sends_131 : decode cX8_sends 131 = .ok (.goto (-34), 3) := by decide +kernel
theorem dX8_sends_134 : decode cX8_sends 134 = .ok (.aload_n 0, 1) := by decide +kernel
theorem dX8_sends_135 : decode cX8_sends 135 = .ok (.aload_n 0, 1) := by decide +kernel
theorem dX8_sends_136 : decode cX8_sends 136 = .ok (.getfield 25, 3) := by decide +kernel
theorem dX8_sends_139 : decode cX8_sends 139 = .ok (.iload_n 1, 1) := by decide +kernel
theorem dX8_sends_140 : decode cX8_sends 140 = .ok (.invokevirtual 235, 3) := by decide +kernel
theorem dX8_sends_143 : decode cX8_sends 143 = .ok (.aload_n 0, 1) := by decide +kernel
theorem dX8_sends_144 : decode cX8_sends 144 = .ok (.getfield 25, 3) := by decide +kernel
theorem dX8_sends_147 : decode cX8_sends 147 = .ok (.invokestatic 204, 3) := by decide +kernel
theorem dX8_sends_150 : decode cX8_sends 150 = .ok (.invokestatic 244, 3) := by decide +kernel
theorem dX8_sends_153 : decode cX8_sends 153 = .ok (.istore 7, 2) := by decide +kernel
theorem dX8_sends_155 : decode cX8_sends 155 = .ok (.iload 7, 2) := by decide +kernel
theorem dX8_sends_157 : decode cX8_sends 157 = .ok (.iload 5, 2) := by decide +kernel
theorem dX8_sends_159 : decode cX8_sends 159 = .ok (.if_icmp .gt 23, 3) := by decide +kernel
theorem dX8_sends_162 : decode cX8_sends 162 = .ok (.iload 7, 2) := by decide +kernel
theorem dX8_sends_164 : decode cX8_sends 164 = .ok (.iload 5, 2) := by decide +kernel
theorem dX8_sends_166 : decode cX8_sends 166 = .ok (.if_icmp .ne 24, 3) := by decide +kernel
theorem dX8_sends_169 : decode cX8_sends 169 = .ok (.iload 6, 2) := by decide +kernel
theorem dX8_sends_171 : decode cX8_sends 171 = .ok (.invokestatic 244, 3) := by decide +kernel
theorem dX8_sends_174 : decode cX8_sends 174 = .ok (.iload 4, 2) := by decide +kernel
theorem dX8_sends_176 : decode cX8_sends 176 = .ok (.invokestatic 244, 3) := by decide +kernel
theorem dX8_sends_179 : decode cX8_sends 179 = .ok (.if_icmp .ge 11, 3) := by decide +kernel
theorem dX8_sends_182 : decode cX8_sends 182 = .ok (.iload 7, 2) := by decide +kernel
theorem dX8_sends_184 : decode cX8_sends 184 = .ok (.istore 5, 2) := by decide +kernel
theorem dX8_sends_186 : decode cX8_sends 186 = .ok (.iload 6, 2) := by decide +kernel
theorem dX8_sends_188 : decode cX8_sends 188 = .ok (.istore 4, 2) := by decide +kernel
theorem dX8_sends_190 : decode cX8_sends 190 = .ok (.iinc 6 1, 3) := by decide +kernel
theorem dX8_sends_193 : decode cX8_sends 193 = .ok (.goto (-132), 3) := by decide +kernel
theorem dX8_sends_196 : decode cX8_sends 196 = .ok (.iload_n 3, 1) := by decide +kernel
theorem dX8_sends_197 : decode cX8_sends 197 = .ok (.ifCond .ne 8, 3) := by decide +kernel
theorem dX8_sends_200 : decode cX8_sends 200 = .ok (.iload 4, 2) := by decide +kernel
theorem dX8_sends_202 : decode cX8_sends 202 = .ok (.goto 5, 3) := by decide +kernel
theorem dX8_sends_205 : decode cX8_sends 205 = .ok (.iload 5, 2) := by decide +kernel
theorem dX8_sends_207 : decode cX8_sends 207 = .ok (.ireturn, 1) := by decide +kernel
theorem dX8_lets_0 : decode cX8_lets 0 = .ok (.aload_n 0, 1) := by decide +kernel
theorem dX8_lets_1 : decode cX8_lets 1 = .ok (.iconst 0, 1) := by decide +kernel
theorem dX8_lets_2 : decode cX8_lets 2 = .ok (.putfield 50, 3) := by decide +kernel
theorem dX8_lets_5 : decode cX8_lets 5 = .ok (.aload_n 0, 1) := by decide +kernel
theorem dX8_lets_6 : decode cX8_lets 6 = .ok (.iload_n 1, 1) := by decide +kernel
theorem dX8_lets_7 : decode cX8_lets 7 = .ok (.invokevirtual 208, 3) := by decide +kernel
theorem dX8_lets_10 : decode cX8_lets 10 = .ok (.ifCond .eq 20, 3) := by decide +kernel
theorem dX8_lets_13 : decode cX8_lets 13 = .ok (.iload_n 2, 1) := by decide +kernel
theorem dX8_lets_14 : decode cX8_lets 14 = .ok (.i2l, 1) := by decide +kernel
theorem dX8_lets_15 : decode cX8_lets 15 = .ok (.lconst 1, 1) := by decide +kernel
theorem dX8_lets_16 : decode cX8_lets 16 = .ok (.ldc2_w 247, 3) := by decide +kernel
theorem dX8_lets_19 : decode cX8_lets 19 = .ok (.invokestatic 60, 3) := by decide +kernel
theorem dX8_lets_22 : decode cX8_lets 22 = .ok (.ifCond .eq 8, 3) := by decide +kernel
theorem dX8_lets_25 : decode cX8_lets 25 = .ok (.iload_n 3, 1) := by decide +kernel
theorem dX8_lets_26 : decode cX8_lets 26 = .ok (.iconst (-1), 1) := by decide +kernel
theorem dX8_lets_27 : decode cX8_lets 27 = .ok (.if_icmp .ge 6, 3) := by decide +kernel
theorem dX8_lets_30 : decode cX8_lets 30 = .ok (.ldc 70, 2) := by decide +kernel
theorem dX8_lets_32 : decode cX8_lets 32 = .ok (.ireturn, 1) := by decide +kernel
theorem dX8_lets_33 : decode cX8_lets 33 = .ok (.aload_n 0, 1) := by decide +kernel
theorem dX8_lets_34 : decode cX8_lets 34 = .ok (.getfield 19, 3) := by decide +kernel
theorem dX8_lets_37 : decode cX8_lets 37 = .ok (.iload_n 1, 1) := by decide +kernel
theorem dX8_lets_38 : decode cX8_lets 38 = .ok (.invokestatic 159, 3) := by decide +kernel
theorem dX8_lets_41 : decode cX8_lets 41 = .ok (.ifCond .ne 6, 3) := by decide +kernel
theorem dX8_lets_44 : decode cX8_lets 44 = .ok (.ldc 198, 2) := by decide +kernel
theorem dX8_lets_46 : decode cX8_lets 46 = .ok (.ireturn, 1) := by decide +kernel
theorem dX8_lets_47 : decode cX8_lets 47 = .ok (.iconst 1, 1) := by decide +kernel
theorem dX8_lets_48 : decode cX8_lets 48 = .ok (.iconst 2, 1) := by decide +kernel
theorem dX8_lets_49 : decode cX8_lets 49 = .ok (.iload_n 2, 1) := by decide +kernel
theorem dX8_lets_50 : decode cX8_lets 50 = .ok (.imul, 1) := by decide +kernel
theorem dX8_lets_51 : decode cX8_lets 51 = .ok (.ishl, 1) := by decide +kernel
theorem dX8_lets_52 : decode cX8_lets 52 = .ok (.istore 4, 2) := by decide +kernel
theorem dX8_lets_54 : decode cX8_lets 54 = .ok (.ldc 93, 2) := by decide +kernel
theorem dX8_lets_56 : decode cX8_lets 56 = .ok (.istore 5, 2) := by decide +kernel
theorem dX8_lets_58 : decode cX8_lets 58 = .ok (.ldc 93, 2) := by decide +kernel
theorem dX8_lets_60 : decode cX8_lets 60 = .ok (.istore 6, 2) := by decide +kernel
theorem dX8_lets_62 : decode cX8_lets 62 = .ok (.iconst 0, 1) := by decide +kernel
theorem dX8_lets_63 : decode cX8_lets 63 = .ok (.istore 7, 2) := by decide +kernel
theorem dX8_lets_65 : decode cX8_lets 65 = .ok (.iload 7, 2) := by decide +kernel
theorem dX8_lets_67 : decode cX8_lets 67 = .ok (.iload 4, 2) := by decide +kernel
theorem dX8_lets_69 : decode cX8_lets 69 = .ok (.if_icmp .ge 149, 3) := by decide +kernel
theorem dX8_lets_72 : decode cX8_lets 72 = .ok (.aload_n 0, 1) := by decide +kernel
theorem dX8_lets_73 : decode cX8_lets 73 = .ok (.invokevirtual 232, 3) := by decide +kernel
theorem dX8_lets_76 : decode cX8_lets 76 = .ok (.iconst 0, 1) := by decide +kernel
theorem dX8_lets_77 : decode cX8_lets 77 = .ok (.istore 8, 2) := by decide +kernel
theorem dX8_lets_79 : decode cX8_lets 79 = .ok (.iload 8, 2) := by decide +kernel
theorem dX8_lets_81 : decode cX8_lets 81 = .ok (.iload_n 2, 1) := by decide +kernel
theorem dX8_lets_82 : decode cX8_lets 82 = .ok (.if_icmp .ge 90, 3) := by decide +kernel
theorem dX8_lets_85 : decode cX8_lets 85 = .ok (.aload_n 0, 1) := by decide +kernel
theorem dX8_lets_86 : decode cX8_lets 86 = .ok (.getfield 25, 3) := by decide +kernel
theorem dX8_lets_89 : decode cX8_lets 89 = .ok (.iload_n 1, 1) := by decide +kernel
theorem dX8_lets_90 : decode cX8_lets 90 = .ok (.invokestatic 159, 3) := by decide +kernel
theorem dX8_lets_93 : decode cX8_lets 93 = .ok (.ifCond .eq 65, 3) := by decide +kernel
theorem dX8_lets_96 : decode cX8_lets 96 = .ok (.aload_n 0, 1) := by decide +kernel
theorem dX8_lets_97 : decode cX8_lets 97 = .ok (.getfield 25, 3) := by decide +kernel
theorem dX8_lets_100 : decode cX8_lets 100 = .ok (.iload_n 1, 1) := by decide +kernel
theorem dX8_lets_101 : decode cX8_lets 101 = .ok (.iconst 5, 1) := by decide +kernel
theorem dX8_lets_102 : decode cX8_lets 102 = .ok (.invokestatic 155, 3) := by decide +kernel
theorem dX8_lets_105 : decode cX8_lets 105 = .ok (.aload_n 0, 1) := by decide +kernel
theorem dX8_lets_106 : decode cX8_lets 106 = .ok (.getfield 37, 3) := by decide +kernel
theorem dX8_lets_109 : decode cX8_lets 109 = .ok (.iload 7, 2) := by decide +kernel
theorem dX8_lets_111 : decode cX8_lets 111 = .ok (.iconst 2, 1) := by decide +kernel
theorem dX8_lets_112 : decode cX8_lets 112 = .ok (.iload_n 2, 1) := by decide +kernel
theorem dX8_lets_113 : decode cX8_lets 113 = .ok (.iconst 1, 1) := by decide +kernel
theorem dX8_lets_114 : decode cX8_lets 114 = .ok (.isub, 1) := by decide +kernel
theorem dX8_lets_115 : decode cX8_lets 115 = .ok (.iload 8, 2) := by decide +kernel
theorem dX8_lets_117 : decode cX8_lets 117 = .ok (.isub, 1) := by decide +kernel
theorem dX8_lets_118 : decode cX8_lets 118 = .ok (.imul, 1) := by decide +kernel
theorem dX8_lets_119 : decode cX8_lets 119 = .ok (.ishr, 1) := by decide +kernel
theorem dX8_lets_120 : decode cX8_lets 120 = .ok (.iconst 3, 1) := by decide +kernel
theorem dX8_lets_121 : decode cX8_lets 121 = .ok (.iand, 1) := by decide +kernel
theorem dX8_lets_122 : decode cX8_lets 122 = .ok (.iaload, 1) := by decide +kernel
theorem dX8_lets_123 : decode cX8_lets 123 = .ok (.iadd, 1) := by decide +kernel
theorem dX8_lets_124 : decode cX8_lets 124 = .ok (.istore 9, 2) := by decide +kernel
theorem dX8_lets_126 : decode cX8_lets 126 = .ok (.aload_n 0, 1) := by decide +kernel
theorem dX8_lets_127 : decode cX8_lets 127 = .ok (.getfield 25, 3) := by decide +kernel
theorem dX8_lets_130 : decode cX8_lets 130 = .ok (.iload_n 1, 1) := by decide +kernel
theorem dX8_lets_131 : decode cX8_lets 131 = .ok (.iload 9, 2) := by decide +kernel
theorem dX8_lets_133 : decode cX8_lets 133 = .ok (.bipush 40, 2) := by decide +kernel
theorem dX8_lets_135 : decode cX8_lets 135 = .ok (.if_icmp .le 8, 3) := by decide +kernel
theorem dX8_lets_138 : decode cX8_lets 138 = .ok (.bipush 40, 2) := by decide +kernel
theorem dX8_lets_140 : decode cX8_lets 140 = .ok (.goto 15, 3) := by decide +kernel
theorem dX8_lets_143 : decode cX8_lets 143 = .ok (.iload 9, 2) := by decide +kernel
theorem dX8_lets_145 : decode cX8_lets 145 = .ok (.iconst 1, 1) := by decide +kernel
theorem dX8_lets_146 : decode cX8_lets 146 = .ok (.if_icmp .ge 7, 3) := by decide +kernel
theorem dX8_lets_149 : decode cX8_lets 149 = .ok (.iconst 1, 1) := by decide +kernel
theorem dX8_lets_150 : decode cX8_lets 150 = .ok (.goto 5, 3) := by decide +kernel
theorem dX8_lets_153 : decode cX8_lets 153 = .ok (.iload 9, 2) := by decide +kernel
theorem dX8_lets_155 : decode cX8_lets 155 = .ok (.invokestatic 222, 3) := by decide +kernel
theorem dX8_lets_158 : decode cX8_lets 158 = .ok (.aload_n 0, 1) := by decide +kernel
theorem dX8_lets_159 : decode cX8_lets 159 = .ok (.aload_n 0, 1) := by decide +kernel
theorem dX8_lets_160 : decode cX8_lets 160 = .ok (.getfield 25, 3) := by decide +kernel
theorem dX8_lets_163 : decode cX8_lets 163 = .ok (.invokevirtual 188, 3) := by decide +kernel
theorem dX8_lets_166 : decode cX8_lets 166 = .ok (.iinc 8 1, 3) := by decide +kernel
theorem dX8_lets_169 : decode cX8_lets 169 = .ok (.goto (-90), 3) := by decide +kernel
theorem dX8_lets_172 : decode cX8_lets 172 = .ok (.aload_n 0, 1) := by decide +kernel
theorem dX8_lets_173 : decode cX8_lets 173 = .ok (.getfield 25, 3) := by decide +kernel
theorem dX8_lets_176 : decode cX8_lets 176 = .ok (.iload_n 1, 1) := by decide +kernel
theorem dX8_lets_177 : decode cX8_lets 177 = .ok (.invokestatic 159, 3) := by decide +kernel
theorem dX8_lets_180 : decode cX8_lets 180 = .ok (.ifCond .eq 32, 3) := by decide +kernel
theorem dX8_lets_183 : decode cX8_lets 183 = .ok (.aload_n 0, 1) := by decide +kernel
theorem dX8_lets_184 : decode cX8_lets 184 = .ok (.getfield 25, 3) := by decide +kernel
theorem dX8_lets_187 : decode cX8_lets 187 = .ok (.iload_n 1, 1) := by decide +kernel
theorem dX8_lets_188 : decode cX8_lets 188 = .ok (.iconst 4, 1) := by decide +kernel
theorem dX8_lets_189 : decode cX8_lets 189 = .ok (.invokestatic 155, 3) := by decide +kernel
theorem dX8_lets_192 : decode cX8_lets 192 = .ok (.iload 6, 2) := by decide +kernel
theorem dX8_lets_194 : decode cX8_lets 194 = .ok (.if_icmp .le 18, 3) := by decide +kernel
theorem dX8_lets_197 : decode cX8_lets 197 = .ok (.aload_n 0, 1) := by decide +kernel
theorem dX8_lets_198 : decode cX8_lets 198 = .ok (.getfield 25, 3) := by decide +kernel
theorem dX8_lets_201 : decode cX8_lets 201 = .ok (.iload_n 1, 1) := by decide +kernel
theorem dX8_lets_202 : decode cX8_lets 202 = .ok (.iconst 4, 1) := by decide +kernel
theorem dX8_lets_203 : decode cX8_lets 203 = .ok (.invokestatic 155, 3) := by decide +kernel
theorem dX8_lets_206 : decode cX8_lets 206 = .ok (.istore 6, 2) := by decide +kernel
theorem dX8_lets_208 : decode cX8_lets 208 = .ok (.iload 7, 2) := by decide +kernel
theorem dX8_lets_210 : decode cX8_lets 210 = .ok (.istore 5, 2) := by decide +kernel
theorem dX8_lets_212 : decode cX8_lets 212 = .ok (.iinc 7 1, 3) := by decide +kernel
theorem dX8_lets_215 : decode cX8_lets 215 = .ok (.goto (-150), 3) := by decide +kernel
theorem dX8_lets_218 : decode cX8_lets 218 = .ok (.iload 5, 2) := by decide +kernel
theorem dX8_lets_220 : decode cX8_lets 220 = .ok (.ldc 93, 2) := by decide +kernel
theorem dX8_lets_222 : decode cX8_lets 222 = .ok (.if_icmp .eq 8, 3) := by decide +kernel
theorem dX8_lets_225 : decode cX8_lets 225 = .ok (.iload_n 3, 1) := by decide +kernel
theorem dX8_lets_226 : decode cX8_lets 226 = .ok (.iconst (-1), 1) := by decide +kernel
theorem dX8_lets_227 : decode cX8_lets 227 = .ok (.if_icmp .ne 8, 3) := by decide +kernel
theorem dX8_lets_230 : decode cX8_lets 230 = .ok (.iload 6, 2) := by decide +kernel
theorem dX8_lets_232 : decode cX8_lets 232 = .ok (.goto 25, 3) := by decide +kernel
theorem dX8_lets_235 : decode cX8_lets 235 = .ok (.iload_n 3, 1) := by decide +kernel
theorem dX8_lets_236 : decode cX8_lets 236 = .ok (.iload_n 2, 1) := by decide +kernel
theorem dX8_lets_237 : decode cX8_lets 237 = .ok (.if_icmp .ge 18, 3) := by decide +kernel
theorem dX8_lets_240 : decode cX8_lets 240 = .ok (.iload 5, 2) := by decide +kernel
theorem dX8_lets_242 : decode cX8_lets 242 = .ok (.iconst 2, 1) := by decide +kernel
theorem dX8_lets_243 : decode cX8_lets 243 = .ok (.iload_n 2, 1) := by decide +kernel
theorem dX8_lets_244 : decode cX8_lets 244 = .ok (.iconst 1, 1) := by decide +kernel
theorem dX8_lets_245 : decode cX8_lets 245 = .ok (.isub, 1) := by decide +kernel
theorem dX8_lets_246 : decode cX8_lets 246 = .ok (.iload_n 3, 1) := by decide +kernel
theorem dX8_lets_247 : decode cX8_lets 247 = .ok (.isub, 1) := by decide +kernel
theorem dX8_lets_248 : decode cX8_lets 248 = .ok (.imul, 1) := by decide +kernel
theorem dX8_lets_249 : decode cX8_lets 249 = .ok (.ishr, 1) := by decide +kernel
theorem dX8_lets_250 : decode cX8_lets 250 = .ok (.iconst 3, 1) := by decide +kernel
theorem dX8_lets_251 : decode cX8_lets 251 = .ok (.iand, 1) := by decide +kernel
theorem dX8_lets_252 : decode cX8_lets 252 = .ok (.goto 5, 3) := by decide +kernel
theorem dX8_lets_255 : decode cX8_lets 255 = .ok (.ldc 93, 2) := by decide +kernel
theorem dX8_lets_257 : decode cX8_lets 257 = .ok (.ireturn, 1) := by decide +kernel
theorem dX8_light_0 : decode cX8_light 0 = .ok (.aload_n 0, 1) := by decide +kernel
theorem dX8_light_1 : decode cX8_light 1 = .ok (.iconst 0, 1) := by decide +kernel
theorem dX8_light_2 : decode cX8_light 2 = .ok (.putfield 50, 3) := by decide +kernel
theorem dX8_light_5 : decode cX8_light 5 = .ok (.aload_n 0, 1) := by decide +kernel
theorem dX8_light_6 : decode cX8_light 6 = .ok (.iload_n 1, 1) := by decide +kernel
theorem dX8_light_7 : decode cX8_light 7 = .ok (.invokevirtual 208, 3) := by decide +kernel
theorem dX8_light_10 : decode cX8_light 10 = .ok (.ifCond .eq 15, 3) := by decide +kernel
theorem dX8_light_13 : decode cX8_light 13 = .ok (.iload_n 2, 1) := by decide +kernel
theorem dX8_light_14 : decode cX8_light 14 = .ok (.i2l, 1) := by decide +kernel
theorem dX8_light_15 : decode cX8_light 15 = .ok (.lconst 1, 1) := by decide +kernel
theorem dX8_light_16 : decode cX8_light 16 = .ok (.ldc2_w 238, 3) := by decide +kernel
theorem dX8_light_19 : decode cX8_light 19 = .ok (.invokestatic 60, 3) := by decide +kernel
theorem dX8_light_22 : decode cX8_light 22 = .ok (.ifCond .ne 6, 3) := by decide +kernel
theorem dX8_light_25 : decode cX8_light 25 = .ok (.ldc 70, 2) := by decide +kernel
theorem dX8_light_27 : decode cX8_light 27 = .ok (.ireturn, 1) := by decide +kernel
theorem dX8_light_28 : decode cX8_light 28 = .ok (.bipush 60, 2) := by decide +kernel
theorem dX8_light_30 : decode cX8_light 30 = .ok (.istore_n 3, 1) := by decide +kernel
theorem dX8_light_31 : decode cX8_light 31 = .ok (.iload_n 3, 1) := by decide +kernel
theorem dX8_light_32 : decode cX8_light 32 = .ok (.ifCond .le 45, 3) := by decide +kernel
theorem dX8_light_35 : decode cX8_light 35 = .ok (.aload_n 0, 1) := by decide +kernel
theorem dX8_light_36 : decode cX8_light 36 = .ok (.invokevirtual 232, 3) := by decide +kernel
theorem dX8_light_39 : decode cX8_light 39 = .ok (.aload_n 0, 1) := by decide +kernel
theorem dX8_light_40 : decode cX8_light 40 = .ok (.getfield 25, 3) := by decide +kernel
theorem dX8_light_43 : decode cX8_light 43 = .ok (.iload_n 1, 1) := by decide +kernel
theorem dX8_light_44 : decode cX8_light 44 = .ok (.iconst 2, 1) := by decide +kernel
theorem dX8_light_45 : decode cX8_light 45 = .ok (.iload_n 3, 1) := by decide +kernel
theorem dX8_light_46 : decode cX8_light 46 = .ok (.invokestatic 170, 3) := by decide +kernel
theorem dX8_light_49 : decode cX8_light 49 = .ok (.aload_n 0, 1) := by decide +kernel
theorem dX8_light_50 : decode cX8_light 50 = .ok (.aload_n 0, 1) := by decide +kernel
theorem dX8_light_51 : decode cX8_light 51 = .ok (.getfield 25, 3) := by decide +kernel
theorem dX8_light_54 : decode cX8_light 54 = .ok (.iload_n 2, 1) := by decide +kernel
theorem dX8_light_55 : decode cX8_light 55 = .ok (.invokevirtual 235, 3) := by decide +kernel
theorem dX8_light_58 : decode cX8_light 58 = .ok (.aload_n 0, 1) := by decide +kernel
theorem dX8_light_59 : decode cX8_light 59 = .ok (.getfield 25, 3) := by decide +kernel
theorem dX8_light_62 : decode cX8_light 62 = .ok (.iload_n 1, 1) := by decide +kernel
theorem dX8_light_63 : decode cX8_light 63 = .ok (.invokestatic 192, 3) := by decide +kernel
theorem dX8_light_66 : decode cX8_light 66 = .ok (.ifCond .eq 5, 3) := by decide +kernel
theorem dX8_light_69 : decode cX8_light 69 = .ok (.iload_n 3, 1) := by decide +kernel
theorem dX8_light_70 : decode cX8_light 70 = .ok (.ireturn, 1) := by decide +kernel
theorem dX8_light_71 : decode cX8_light 71 = .ok (.iinc 3 (-1), 3) := by decide +kernel
theorem dX8_light_74 : decode cX8_light 74 = .ok (.goto (-43), 3) := by decide +kernel
theorem dX8_light_77 : decode cX8_light 77 = .ok (.ldc 93, 2) := by decide +kernel
theorem dX8_light_79 : decode cX8_light 79 = .ok (.ireturn, 1) := by decide +kernel
theorem dX8_gust_0 : decode cX8_gust 0 = .ok (.aload_n 0, 1) := by decide +kernel
theorem dX8_gust_1 : decode cX8_gust 1 = .ok (.iconst 0, 1) := by decide +kernel
theorem dX8_gust_2 : decode cX8_gust 2 = .ok (.putfield 50, 3) := by decide +kernel
theorem dX8_gust_5 : decode cX8_gust 5 = .ok (.aload_n 0, 1) := by decide +kernel
theorem dX8_gust_6 : decode cX8_gust 6 = .ok (.iload_n 1, 1) := by decide +kernel
theorem dX8_gust_7 : decode cX8_gust 7 = .ok (.invokevirtual 208, 3) := by decide +kernel
theorem dX8_gust_10 : decode cX8_gust 10 = .ok (.ifCond .ne 6, 3) := by decide +kernel
theorem dX8_gust_13 : decode cX8_gust 13 = .ok (.ldc 70, 2) := by decide +kernel
theorem dX8_gust_15 : decode cX8_gust 15 = .ok (.ireturn, 1) := by decide +kernel
theorem dX8_gust_16 : decode cX8_gust 16 = .ok (.aload_n 0, 1) := by decide +kernel
theorem dX8_gust_17 : decode cX8_gust 17 = .ok (.getfield 19, 3) := by decide +kernel
theorem dX8_gust_20 : decode cX8_gust 20 = .ok (.iload_n 1, 1) := by decide +kernel
theorem dX8_gust_21 : decode cX8_gust 21 = .ok (.invokestatic 159, 3) := by decide +kernel
theorem dX8_gust_24 : decode cX8_gust 24 = .ok (.ifCond .ne 6, 3) := by decide +kernel
theorem dX8_gust_27 : decode cX8_gust 27 = .ok (.ldc 198, 2) := by decide +kernel
theorem dX8_gust_29 : decode cX8_gust 29 = .ok (.ireturn, 1) := by decide +kernel
theorem dX8_gust_30 : decode cX8_gust 30 = .ok (.iconst 0, 1) := by decide +kernel
theorem dX8_gust_31 : decode cX8_gust 31 = .ok (.istore_n 2, 1) := by decide +kernel
theorem dX8_gust_32 : decode cX8_gust 32 = .ok (.iload_n 2, 1) := by decide +kernel
theorem dX8_gust_33 : decode cX8_gust 33 = .ok (.bipush 100, 2) := by decide +kernel
theorem dX8_gust_35 : decode cX8_gust 35 = .ok (.if_icmp .ge 31, 3) := by decide +kernel
theorem dX8_gust_38 : decode cX8_gust 38 = .ok (.aload_n 0, 1) := by decide +kernel
theorem dX8_gust_39 : decode cX8_gust 39 = .ok (.getfield 19, 3) := by decide +kernel
theorem dX8_gust_42 : decode cX8_gust 42 = .ok (.iload_n 1, 1) := by decide +kernel
theorem dX8_gust_43 : decode cX8_gust 43 = .ok (.aload_n 0, 1) := by decide +kernel
theorem dX8_gust_44 : decode cX8_gust 44 = .ok (.getfield 19, 3) := by decide +kernel
theorem dX8_gust_47 : decode cX8_gust 47 = .ok (.iload_n 1, 1) := by decide +kernel
theorem dX8_gust_48 : decode cX8_gust 48 = .ok (.iload_n 2, 1) := by decide +kernel
theorem dX8_gust_49 : decode cX8_gust 49 = .ok (.invokestatic 174, 3) := by decide +kernel
theorem dX8_gust_52 : decode cX8_gust 52 = .ok (.invokestatic 166, 3) := by decide +kernel
theorem dX8_gust_55 : decode cX8_gust 55 = .ok (.ifCond .eq 5, 3) := by decide +kernel
theorem dX8_gust_58 : decode cX8_gust 58 = .ok (.iload_n 2, 1) := by decide +kernel
theorem dX8_gust_59 : decode cX8_gust 59 = .ok (.ireturn, 1) := by decide +kernel
theorem dX8_gust_60 : decode cX8_gust 60 = .ok (.iinc 2 1, 3) := by decide +kernel
theorem dX8_gust_63 : decode cX8_gust 63 = .ok (.goto (-31), 3) := by decide +kernel
theorem dX8_gust_66 : decode cX8_gust 66 = .ok (.ldc 93, 2) := by decide +kernel
theorem dX8_gust_68 : decode cX8_gust 68 = .ok (.ireturn, 1) := by decide +kernel
theorem dX8_quarrels_0 : decode cX8_quarrels 0 = .ok (.aload_n 0, 1) := by decide +kernel
theorem dX8_quarrels_1 : decode cX8_quarrels 1 = .ok (.iconst 0, 1) := by decide +kernel
theorem dX8_quarrels_2 : decode cX8_quarrels 2 = .ok (.putfield 50, 3) := by decide +kernel
theorem dX8_quarrels_5 : decode cX8_quarrels 5 = .ok (.aload_n 0, 1) := by decide +kernel
theorem dX8_quarrels_6 : decode cX8_quarrels 6 = .ok (.invokevirtual 195, 3) := by decide +kernel
theorem dX8_quarrels_9 : decode cX8_quarrels 9 = .ok (.ifCond .ne 6, 3) := by decide +kernel
theorem dX8_quarrels_12 : decode cX8_quarrels 12 = .ok (.ldc 198, 2) := by decide +kernel
theorem dX8_quarrels_14 : decode cX8_quarrels 14 = .ok (.ireturn, 1) := by decide +kernel
theorem dX8_quarrels_15 : decode cX8_quarrels 15 = .ok (.iload_n 1, 1) := by decide +kernel
theorem dX8_quarrels_16 : decode cX8_quarrels 16 = .ok (.i2l, 1) := by decide +kernel
theorem dX8_quarrels_17 : decode cX8_quarrels 17 = .ok (.lconst 0, 1) := by decide +kernel
theorem dX8_quarrels_18 : decode cX8_quarrels 18 = .ok (.lconst 1, 1) := by decide +kernel
theorem dX8_quarrels_19 : decode cX8_quarrels 19 = .ok (.invokestatic 60, 3) := by decide +kernel
theorem dX8_quarrels_22 : decode cX8_quarrels 22 = .ok (.ifCond .ne 6, 3) := by decide +kernel
theorem dX8_quarrels_25 : decode cX8_quarrels 25 = .ok (.ldc 70, 2) := by decide +kernel
theorem dX8_quarrels_27 : decode cX8_quarrels 27 = .ok (.ireturn, 1) := by decide +kernel
theorem dX8_quarrels_28 : decode cX8_quarrels 28 = .ok (.iconst 0, 1) := by decide +kernel
theorem dX8_quarrels_29 : decode cX8_quarrels 29 = .ok (.istore_n 2, 1) := by decide +kernel
theorem dX8_quarrels_30 : decode cX8_quarrels 30 = .ok (.ldc 93, 2) := by decide +kernel
theorem dX8_quarrels_32 : decode cX8_quarrels 32 = .ok (.istore_n 3, 1) := by decide +kernel
theorem dX8_quarrels_33 : decode cX8_quarrels 33 = .ok (.iconst 0, 1) := by decide +kernel
theorem dX8_quarrels_34 : decode cX8_quarrels 34 = .ok (.istore 4, 2) := by decide +kernel
theorem dX8_quarrels_36 : decode cX8_quarrels 36 = .ok (.iload 4, 2) := by decide +kernel
theorem dX8_quarrels_38 : decode cX8_quarrels 38 = .ok (.aload_n 0, 1) := by decide +kernel
theorem dX8_quarrels_39 : decode cX8_quarrels 39 = .ok (.getfield 19, 3) := by decide +kernel
theorem dX8_quarrels_42 : decode cX8_quarrels 42 = .ok (.iconst 0, 1) := by decide +kernel
theorem dX8_quarrels_43 : decode cX8_quarrels 43 = .ok (.iaload, 1) := by decide +kernel
theorem dX8_quarrels_44 : decode cX8_quarrels 44 = .ok (.if_icmp .ge 87, 3) := by decide +kernel
theorem dX8_quarrels_47 : decode cX8_quarrels 47 = .ok (.iload 4, 2) := by decide +kernel
theorem dX8_quarrels_49 : decode cX8_quarrels 49 = .ok (.iconst 1, 1) := by decide +kernel
theorem dX8_quarrels_50 : decode cX8_quarrels 50 = .ok (.iadd, 1) := by decide +kernel
theorem dX8_quarrels_51 : decode cX8_quarrels 51 = .ok (.istore 5, 2) := by decide +kernel
theorem dX8_quarrels_53 : decode cX8_quarrels 53 = .ok (.iload 5, 2) := by decide +kernel
theorem dX8_quarrels_55 : decode cX8_quarrels 55 = .ok (.aload_n 0, 1) := by decide +kernel
theorem dX8_quarrels_56 : decode cX8_quarrels 56 = .ok (.getfield 19, 3) := by decide +kernel
theorem dX8_quarrels_59 : decode cX8_quarrels 59 = .ok (.iconst 0, 1) := by decide +kernel
theorem dX8_quarrels_60 : decode cX8_quarrels 60 = .ok (.iaload, 1) := by decide +kernel
theorem dX8_quarrels_61 : decode cX8_quarrels 61 = .ok (.if_icmp .ge 64, 3) := by decide +kernel
theorem dX8_quarrels_64 : decode cX8_quarrels 64 = .ok (.aload_n 0, 1) := by decide +kernel
theorem dX8_quarrels_65 : decode cX8_quarrels 65 = .ok (.getfield 19, 3) := by decide +kernel
theorem dX8_quarrels_68 : decode cX8_quarrels 68 = .ok (.iload 4, 2) := by decide +kernel
theorem dX8_quarrels_70 : decode cX8_quarrels 70 = .ok (.invokestatic 229, 3) := by decide +kernel
theorem dX8_quarrels_73 : decode cX8_quarrels 73 = .ok (.ldc 93, 2) := by decide +kernel
theorem dX8_quarrels_75 : decode cX8_quarrels 75 = .ok (.if_icmp .eq 44, 3) := by decide +kernel
theorem dX8_quarrels_78 : decode cX8_quarrels 78 = .ok (.aload_n 0, 1) := by decide +kernel
theorem dX8_quarrels_79 : decode cX8_quarrels 79 = .ok (.getfield 19, 3) := by decide +kernel
theorem dX8_quarrels_82 : decode cX8_quarrels 82 = .ok (.iload 4, 2) := by decide +kernel
theorem dX8_quarrels_84 : decode cX8_quarrels 84 = .ok (.invokestatic 229, 3) := by decide +kernel
theorem dX8_quarrels_87 : decode cX8_quarrels 87 = .ok (.aload_n 0, 1) := by decide +kernel
theorem dX8_quarrels_88 : decode cX8_quarrels 88 = .ok (.getfield 19, 3) := by decide +kernel
theorem dX8_quarrels_91 : decode cX8_quarrels 91 = .ok (.iload 5, 2) := by decide +kernel
theorem dX8_quarrels_93 : decode cX8_quarrels 93 = .ok (.invokestatic 229, 3) := by decide +kernel
theorem dX8_quarrels_96 : decode cX8_quarrels 96 = .ok (.if_icmp .ne 23, 3) := by decide +kernel
theorem dX8_quarrels_99 : decode cX8_quarrels 99 = .ok (.iload_n 2, 1) := by decide +kernel
theorem dX8_quarrels_100 : decode cX8_quarrels 100 = .ok (.ifCond .ne 14, 3) := by decide +kernel
theorem dX8_quarrels_103 : decode cX8_quarrels 103 = .ok (.bipush 10, 2) := by decide +kernel
theorem dX8_quarrels_105 : decode cX8_quarrels 105 = .ok (.iload 4, 2) := by decide +kernel
theorem dX8_quarrels_107 : decode cX8_quarrels 107 = .ok (.imul, 1) := by decide +kernel
theorem dX8_quarrels_108 : decode cX8_quarrels 108 = .ok (.iload 5, 2) := by decide +kernel
theorem dX8_quarrels_110 : decode cX8_quarrels 110 = .ok (.iadd, 1) := by decide +kernel
theorem dX8_quarrels_111 : decode cX8_quarrels 111 = .ok (.goto 4, 3) := by decide +kernel
theorem dX8_quarrels_114 : decode cX8_quarrels 114 = .ok (.iload_n 3, 1) := by decide +kernel
theorem dX8_quarrels_115 : decode cX8_quarrels 115 = .ok (.istore_n 3, 1) := by decide +kernel
theorem dX8_quarrels_116 : decode cX8_quarrels 116 = .ok (.iinc 2 1, 3) := by decide +kernel
theorem dX8_quarrels_119 : decode cX8_quarrels 119 = .ok (.iinc 5 1, 3) := by decide +kernel
theorem dX8_quarrels_122 : decode cX8_quarrels 122 = .ok (.goto (-69), 3) := by decide +kernel
theorem dX8_quarrels_125 : decode cX8_quarrels 125 = .ok (.iinc 4 1, 3) := by decide +kernel
theorem dX8_quarrels_128 : decode cX8_quarrels 128 = .ok (.goto (-92), 3) := by decide +kernel
theorem dX8_quarrels_131 : decode cX8_quarrels 131 = .ok (.iload_n 1, 1) := by decide +kernel
theorem dX8_quarrels_132 : decode cX8_quarrels 132 = .ok (.ifCond .ne 7, 3) := by decide +kernel
theorem dX8_quarrels_135 : decode cX8_quarrels 135 = .ok (.iload_n 2, 1) := by decide +kernel
theorem dX8_quarrels_136 : decode cX8_quarrels 136 = .ok (.goto 4, 3) := by decide +kernel
theorem dX8_quarrels_139 : decode cX8_quarrels 139 = .ok (.iload_n 3, 1) := by decide +kernel
theorem dX8_quarrels_140 : decode cX8_quarrels 140 = .ok (.ireturn, 1) := by decide +kernel
theorem dX8_isSo_0 : decode cX8_isSo 0 = .ok (.iconst 1, 1) := by decide +kernel
theorem dX8_isSo_1 : decode cX8_isSo 1 = .ok (.istore 4, 2) := by decide +kernel
theorem dX8_isSo_3 : decode cX8_isSo 3 = .ok (.iconst 0, 1) := by decide +kernel
theorem dX8_isSo_4 : decode cX8_isSo 4 = .ok (.istore 5, 2) := by decide +kernel
theorem dX8_isSo_6 : decode cX8_isSo 6 = .ok (.iload 5, 2) := by decide +kernel
theorem dX8_isSo_8 : decode cX8_isSo 8 = .ok (.iload_n 3, 1) := by decide +kernel
theorem dX8_isSo_9 : decode cX8_isSo 9 = .ok (.if_icmp .ge 50, 3) := by decide +kernel
theorem dX8_isSo_12 : decode cX8_isSo 12 = .ok (.aload_n 0, 1) := by decide +kernel
theorem dX8_isSo_13 : decode cX8_isSo 13 = .ok (.aload_n 0, 1) := by decide +kernel
theorem dX8_isSo_14 : decode cX8_isSo 14 = .ok (.getfield 25, 3) := by decide +kernel
theorem dX8_isSo_17 : decode cX8_isSo 17 = .ok (.invokevirtual 188, 3) := by decide +kernel
theorem dX8_isSo_20 : decode cX8_isSo 20 = .ok (.iload 4, 2) := by decide +kernel
theorem dX8_isSo_22 : decode cX8_isSo 22 = .ok (.ifCond .eq 28, 3) := by decide +kernel
theorem dX8_isSo_25 : decode cX8_isSo 25 = .ok (.aload_n 0, 1) := by decide +kernel
theorem dX8_isSo_26 : decode cX8_isSo 26 = .ok (.getfield 25, 3) := by decide +kernel
theorem dX8_isSo_29 : decode cX8_isSo 29 = .ok (.iload_n 1, 1) := by decide +kernel
theorem dX8_isSo_30 : decode cX8_isSo 30 = .ok (.iconst 4, 1) := by decide +kernel
theorem dX8_isSo_31 : decode cX8_isSo 31 = .ok (.invokestatic 155, 3) := by decide +kernel
theorem dX8_isSo_34 : decode cX8_isSo 34 = .ok (.aload_n 0, 1) := by decide +kernel
theorem dX8_isSo_35 : decode cX8_isSo 35 = .ok (.getfield 16, 3) := by decide +kernel
theorem dX8_isSo_38 : decode cX8_isSo 38 = .ok (.iload_n 2, 1) := by decide +kernel
theorem dX8_isSo_39 : decode cX8_isSo 39 = .ok (.iload 5, 2) := by decide +kernel
theorem dX8_isSo_41 : decode cX8_isSo 41 = .ok (.iadd, 1) := by decide +kernel
theorem dX8_isSo_42 : decode cX8_isSo 42 = .ok (.iaload, 1) := by decide +kernel
theorem dX8_isSo_43 : decode cX8_isSo 43 = .ok (.if_icmp .ne 7, 3) := by decide +kernel
theorem dX8_isSo_46 : decode cX8_isSo 46 = .ok (.iconst 1, 1) := by decide +kernel
theorem dX8_isSo_47 : decode cX8_isSo 47 = .ok (.goto 4, 3) := by decide +kernel
theorem dX8_isSo_50 : decode cX8_isSo 50 = .ok (.iconst 0, 1) := by decide +kernel
theorem dX8_isSo_51 : decode cX8_isSo 51 = .ok (.istore 4, 2) := by decide +kernel
theorem dX8_isSo_53 : decode cX8_isSo 53 = .ok (.iinc 5 1, 3) := by decide +kernel
theorem dX8_isSo_56 : decode cX8_isSo 56 = .ok (.goto (-50), 3) := by decide +kernel
theorem dX8_isSo_59 : decode cX8_isSo 59 = .ok (.iload 4, 2) := by decide +kernel
theorem dX8_isSo_61 : decode cX8_isSo 61 = .ok (.ireturn, 1) := by decide +kernel
theorem dX8_rowFound_0 : decode cX8_rowFound 0 = .ok (.aload_n 0, 1) := by decide +kernel
theorem dX8_rowFound_1 : decode cX8_rowFound 1 = .ok (.getfield 7, 3) := by decide +kernel
theorem dX8_rowFound_4 : decode cX8_rowFound 4 = .ok (.iload_n 1, 1) := by decide +kernel
theorem dX8_rowFound_5 : decode cX8_rowFound 5 = .ok (.iaload, 1) := by decide +kernel
theorem dX8_rowFound_6 : decode cX8_rowFound 6 = .ok (.ifCond .ge 9, 3) := by decide +kernel
theorem dX8_rowFound_9 : decode cX8_rowFound 9 = .ok (.aload_n 0, 1) := by decide +kernel
theorem dX8_rowFound_10 : decode cX8_rowFound 10 = .ok (.iconst 1, 1) := by decide +kernel
theorem dX8_rowFound_11 : decode cX8_rowFound 11 = .ok (.invokevirtual 71, 3) := by decide +kernel
theorem dX8_rowFound_14 : decode cX8_rowFound 14 = .ok (.ireturn, 1) := by decide +kernel
theorem dX8_rowFound_15 : decode cX8_rowFound 15 = .ok (.iload_n 2, 1) := by decide +kernel
theorem dX8_rowFound_16 : decode cX8_rowFound 16 = .ok (.ifCond .lt 19, 3) := by decide +kernel
theorem dX8_rowFound_19 : decode cX8_rowFound 19 = .ok (.iload_n 2, 1) := by decide +kernel
theorem dX8_rowFound_20 : decode cX8_rowFound 20 = .ok (.i2l, 1) := by decide +kernel
theorem dX8_rowFound_21 : decode cX8_rowFound 21 = .ok (.iload_n 3, 1) := by decide +kernel
theorem dX8_rowFound_22 : decode cX8_rowFound 22 = .ok (.i2l, 1) := by decide +kernel
theorem dX8_rowFound_23 : decode cX8_rowFound 23 = .ok (.ladd, 1) := by decide +kernel
theorem dX8_rowFound_24 : decode cX8_rowFound 24 = .ok (.aload_n 0, 1) := by decide +kernel
theorem dX8_rowFound_25 : decode cX8_rowFound 25 = .ok (.getfield 13, 3) := by decide +kernel
theorem dX8_rowFound_28 : decode cX8_rowFound 28 = .ok (.iload_n 1, 1) := by decide +kernel
theorem dX8_rowFound_29 : decode cX8_rowFound 29 = .ok (.iaload, 1) := by decide +kernel
theorem dX8_rowFound_30 : decode cX8_rowFound 30 = .ok (.i2l, 1) := by decide +kernel
theorem dX8_rowFound_31 : decode cX8_rowFound 31 = .ok (.lcmp, 1) := by decide +kernel
theorem dX8_rowFound_32 : decode cX8_rowFound 32 = .ok (.ifCond .le 9, 3) := by decide +kernel
theorem dX8_rowFound_35 : decode cX8_rowFound 35 = .ok (.aload_n 0, 1) := by decide +kernel
theorem dX8_rowFound_36 : decode cX8_rowFound 36 = .ok (.iconst 2, 1) := by decide +kernel
theorem dX8_rowFound_37 : decode cX8_rowFound 37 = .ok (.invokevirtual 71, 3) := by decide +kernel
theorem dX8_rowFound_40 : decode cX8_rowFound 40 = .ok (.ireturn, 1) := by decide +kernel
theorem dX8_rowFound_41 : decode cX8_rowFound 41 = .ok (.aload_n 0, 1) := by decide +kernel
theorem dX8_rowFound_42 : decode cX8_rowFound 42 = .ok (.iconst 0, 1) := by decide +kernel
theorem dX8_rowFound_43 : decode cX8_rowFound 43 = .ok (.putfield 54, 3) := by decide +kernel
theorem dX8_rowFound_46 : decode cX8_rowFound 46 = .ok (.iconst 0, 1) := by decide +kernel
theorem dX8_rowFound_47 : decode cX8_rowFound 47 = .ok (.ireturn, 1) := by decide +kernel
theorem dX8_isMany_0 : decode cX8_isMany 0 = .ok (.iload_n 0, 1) := by decide +kernel
theorem dX8_isMany_1 : decode cX8_isMany 1 = .ok (.invokestatic 64, 3) := by decide +kernel
theorem dX8_isMany_4 : decode cX8_isMany 4 = .ok (.ifCond .eq 19, 3) := by decide +kernel
theorem dX8_isMany_7 : decode cX8_isMany 7 = .ok (.iload_n 1, 1) := by decide +kernel
theorem dX8_isMany_8 : decode cX8_isMany 8 = .ok (.i2l, 1) := by decide +kernel
theorem dX8_isMany_9 : decode cX8_isMany 9 = .ok (.lconst 1, 1) := by decide +kernel
theorem dX8_isMany_10 : decode cX8_isMany 10 = .ok (.ldc2_w 249, 3) := by decide +kernel
theorem dX8_isMany_13 : decode cX8_isMany 13 = .ok (.invokestatic 60, 3) := by decide +kernel
theorem dX8_isMany_16 : decode cX8_isMany 16 = .ok (.ifCond .eq 7, 3) := by decide +kernel
theorem dX8_isMany_19 : decode cX8_isMany 19 = .ok (.iconst 1, 1) := by decide +kernel
theorem dX8_isMany_20 : decode cX8_isMany 20 = .ok (.goto 4, 3) := by decide +kernel
theorem dX8_isMany_23 : decode cX8_isMany 23 = .ok (.iconst 0, 1) := by decide +kernel
theorem dX8_isMany_24 : decode cX8_isMany 24 = .ok (.ireturn, 1) := by decide +kernel
theorem dX8_who_0 : decode cX8_who 0 = .ok (.aload_n 0, 1) := by decide +kernel
theorem dX8_who_1 : decode cX8_who 1 = .ok (.iconst 0, 1) := by decide +kernel
theorem dX8_who_2 : decode cX8_who 2 = .ok (.putfield 50, 3) := by decide +kernel
theorem dX8_who_5 : decode cX8_who 5 = .ok (.aload_n 0, 1) := by decide +kernel
theorem dX8_who_6 : decode cX8_who 6 = .ok (.iload_n 1, 1) := by decide +kernel
theorem dX8_who_7 : decode cX8_who 7 = .ok (.invokevirtual 208, 3) := by decide +kernel
theorem dX8_who_10 : decode cX8_who 10 = .ok (.ifCond .eq 24, 3) := by decide +kernel
theorem dX8_who_13 : decode cX8_who 13 = .ok (.iload_n 2, 1) := by decide +kernel
theorem dX8_who_14 : decode cX8_who 14 = .ok (.i2l, 1) := by decide +kernel
theorem dX8_who_15 : decode cX8_who 15 = .ok (.lconst 0, 1) := by decide +kernel
theorem dX8_who_16 : decode cX8_who 16 = .ok (.ldc2_w 247, 3) := by decide +kernel
theorem dX8_who_19 : decode cX8_who 19 = .ok (.invokestatic 60, 3) := by decide +kernel
theorem dX8_who_22 : decode cX8_who 22 = .ok (.ifCond .eq 12, 3) := by decide +kernel
theorem dX8_who_25 : decode cX8_who 25 = .ok (.iload_n 3, 1) := by decide +kernel
theorem dX8_who_26 : decode cX8_who 26 = .ok (.iload 5, 2) := by decide +kernel
theorem dX8_who_28 : decode cX8_who 28 = .ok (.invokestatic 251, 3) := by decide +kernel
theorem dX8_who_31 : decode cX8_who 31 = .ok (.ifCond .ne 6, 3) := by decide +kernel
theorem dX8_who_34 : decode cX8_who 34 = .ok (.ldc 70, 2) := by decide +kernel
theorem dX8_who_36 : decode cX8_who 36 = .ok (.ireturn, 1) := by decide +kernel
theorem dX8_who_37 : decode cX8_who 37 = .ok (.aload_n 0, 1) := by decide +kernel
theorem dX8_who_38 : decode cX8_who 38 = .ok (.iload_n 3, 1) := by decide +kernel
theorem dX8_who_39 : decode cX8_who 39 = .ok (.iload 4, 2) := by decide +kernel
theorem dX8_who_41 : decode cX8_who 41 = .ok (.iload 5, 2) := by decide +kernel
theorem dX8_who_43 : decode cX8_who 43 = .ok (.invokevirtual 254, 3) := by decide +kernel
theorem dX8_who_46 : decode cX8_who 46 = .ok (.istore 6, 2) := by decide +kernel
theorem dX8_who_48 : decode cX8_who 48 = .ok (.iload 6, 2) := by decide +kernel
theorem dX8_who_50 : decode cX8_who 50 = .ok (.ifCond .eq 6, 3) := by decide +kernel
theorem dX8_who_53 : decode cX8_who 53 = .ok (.iload 6, 2) := by decide +kernel
theorem dX8_who_55 : decode cX8_who 55 = .ok (.ireturn, 1) := by decide +kernel
theorem dX8_who_56 : decode cX8_who 56 = .ok (.iconst 0, 1) := by decide +kernel
theorem dX8_who_57 : decode cX8_who 57 = .ok (.istore 7, 2) := by decide +kernel
theorem dX8_who_59 : decode cX8_who 59 = .ok (.iconst 0, 1) := by decide +kernel
theorem dX8_who_60 : decode cX8_who 60 = .ok (.istore 8, 2) := by decide +kernel
theorem dX8_who_62 : decode cX8_who 62 = .ok (.ldc 93, 2) := by decide +kernel
theorem dX8_who_64 : decode cX8_who 64 = .ok (.istore 9, 2) := by decide +kernel
theorem dX8_who_66 : decode cX8_who 66 = .ok (.ldc 93, 2) := by decide +kernel
theorem dX8_who_68 : decode cX8_who 68 = .ok (.istore 10, 2) := by decide +kernel
theorem dX8_who_70 : decode cX8_who 70 = .ok (.iload_n 2, 1) := by decide +kernel
theorem dX8_who_71 : decode cX8_who 71 = .ok (.ifCond .ne 7, 3) := by decide +kernel
theorem dX8_who_74 : decode cX8_who 74 = .ok (.iconst 5, 1) := by decide +kernel
theorem dX8_who_75 : decode cX8_who 75 = .ok (.goto 15, 3) := by decide +kernel
theorem dX8_who_78 : decode cX8_who 78 = .ok (.iload_n 2, 1) := by decide +kernel
theorem dX8_who_79 : decode cX8_who 79 = .ok (.iconst 1, 1) := by decide +kernel
theorem dX8_who_80 : decode cX8_who 80 = .ok (.if_icmp .ne 8, 3) := by decide +kernel
theorem dX8_who_83 : decode cX8_who 83 = .ok (.bipush 9, 2) := by decide +kernel
theorem dX8_who_85 : decode cX8_who 85 = .ok (.goto 5, 3) := by decide +kernel
theorem dX8_who_88 : decode cX8_who 88 = .ok (.bipush 60, 2) := by decide +kernel
theorem dX8_who_90 : decode cX8_who 90 = .ok (.istore 11, 2) := by decide +kernel
theorem dX8_who_92 : decode cX8_who 92 = .ok (.iload_n 2, 1) := by decide +kernel
theorem dX8_who_93 : decode cX8_who 93 = .ok (.iconst 1, 1) := by decide +kernel
theorem dX8_who_94 : decode cX8_who 94 = .ok (.if_icmp .ne 7, 3) := by decide +kernel
theorem dX8_who_97 : decode cX8_who 97 = .ok (.iconst 0, 1) := by decide +kernel
theorem dX8_who_98 : decode cX8_who 98 = .ok (.goto 4, 3) := by decide +kernel
theorem dX8_who_101 : decode cX8_who 101 = .ok (.iconst 1, 1) := by decide +kernel
theorem dX8_who_102 : decode cX8_who 102 = .ok (.istore 12, 2) := by decide +kernel
theorem dX8_who_104 : decode cX8_who 104 = .ok (.iload 12, 2) := by decide +kernel
theorem dX8_who_106 : decode cX8_who 106 = .ok (.iload 11, 2) := by decide +kernel
theorem dX8_who_108 : decode cX8_who 108 = .ok (.if_icmp .gt 97, 3) := by decide +kernel
theorem dX8_who_111 : decode cX8_who 111 = .ok (.aload_n 0, 1) := by decide +kernel
theorem dX8_who_112 : decode cX8_who 112 = .ok (.invokevirtual 232, 3) := by decide +kernel
theorem dX8_who_115 : decode cX8_who 115 = .ok (.aload_n 0, 1) := by decide +kernel
theorem dX8_who_116 : decode cX8_who 116 = .ok (.getfield 25, 3) := by decide +kernel
theorem dX8_who_119 : decode cX8_who 119 = .ok (.iload_n 1, 1) := by decide +kernel
theorem dX8_who_120 : decode cX8_who 120 = .ok (.iload_n 2, 1) := by decide +kernel
theorem dX8_who_121 : decode cX8_who 121 = .ok (.ifCond .ne 7, 3) := by decide +kernel
theorem dX8_who_124 : decode cX8_who 124 = .ok (.iconst 0, 1) := by decide +kernel
theorem dX8_who_125 : decode cX8_who 125 = .ok (.goto 13, 3) := by decide +kernel
theorem dX8_who_128 : decode cX8_who 128 = .ok (.iload_n 2, 1) := by decide +kernel
theorem dX8_who_129 : decode cX8_who 129 = .ok (.iconst 1, 1) := by decide +kernel
theorem dX8_who_130 : decode cX8_who 130 = .ok (.if_icmp .ne 7, 3) := by decide +kernel
theorem dX8_who_133 : decode cX8_who 133 = .ok (.iconst 1, 1) := by decide +kernel
theorem dX8_who_134 : decode cX8_who 134 = .ok (.goto 4, 3) := by decide +kernel
theorem dX8_who_137 : decode cX8_who 137 = .ok (.iconst 2, 1) := by decide +kernel
theorem dX8_who_138 : decode cX8_who 138 = .ok (.iload 12, 2) := by decide +kernel
theorem dX8_who_140 : decode cX8_who 140 = .ok (.invokestatic 170, 3) := by decide +kernel
theorem dX8_who_143 : decode cX8_who 143 = .ok (.aload_n 0, 1) := by decide +kernel
theorem dX8_who_144 : decode cX8_who 144 = .ok (.iload_n 1, 1) := by decide +kernel
theorem dX8_who_145 : decode cX8_who 145 = .ok (.bipush 40, 2) := by decide +kernel
theorem dX8_who_147 : decode cX8_who 147 = .ok (.iload_n 3, 1) := by decide +kernel
theorem dX8_who_148 : decode cX8_who 148 = .ok (.imul, 1) := by decide +kernel
theorem dX8_who_149 : decode cX8_who 149 = .ok (.iload 4, 2) := by decide +kernel
theorem dX8_who_151 : decode cX8_who 151 = .ok (.iadd, 1) := by decide +kernel
theorem dX8_who_152 : decode cX8_who 152 = .ok (.iload 5, 2) := by decide +kernel
theorem dX8_who_154 : decode cX8_who 154 = .ok (.invokevirtual 258, 3) := by decide +kernel
theorem dX8_who_157 : decode cX8_who 157 = .ok (.ifCond .eq 42, 3) := by decide +kernel
theorem dX8_who_160 : decode cX8_who 160 = .ok (.iload 7, 2) := by decide +kernel
theorem dX8_who_162 : decode cX8_who 162 = .ok (.iload_n 2, 1) := by decide +kernel
theorem dX8_who_163 : decode cX8_who 163 = .ok (.iconst 2, 1) := by decide +kernel
theorem dX8_who_164 : decode cX8_who 164 = .ok (.if_icmp .ge 10, 3) := by decide +kernel
theorem dX8_who_167 : decode cX8_who 167 = .ok (.iconst 1, 1) := by decide +kernel
theorem dX8_who_168 : decode cX8_who 168 = .ok (.iload 12, 2) := by decide +kernel
theorem dX8_who_170 : decode cX8_who 170 = .ok (.ishl, 1) := by decide +kernel
theorem dX8_who_171 : decode cX8_who 171 = .ok (.goto 4, 3) := by decide +kernel
theorem dX8_who_174 : decode cX8_who 174 = .ok (.iconst 0, 1) := by decide +kernel
theorem dX8_who_175 : decode cX8_who 175 = .ok (.ior, 1) := by decide +kernel
theorem dX8_who_176 : decode cX8_who 176 = .ok (.istore 7, 2) := by decide +kernel
theorem dX8_who_178 : decode cX8_who 178 = .ok (.iload 8, 2) := by decide +kernel
theorem dX8_who_180 : decode cX8_who 180 = .ok (.ifCond .ne 8, 3) := by decide +kernel
theorem dX8_who_183 : decode cX8_who 183 = .ok (.iload 12, 2) := by decide +kernel
theorem dX8_who_185 : decode cX8_who 185 = .ok (.goto 5, 3) := by decide +kernel
theorem dX8_who_188 : decode cX8_who 188 = .ok (.iload 9, 2) := by decide +kernel
theorem dX8_who_190 : decode cX8_who 190 = .ok (.istore 9, 2) := by decide +kernel
theorem dX8_who_192 : decode cX8_who 192 = .ok (.iload 12, 2) := by decide +kernel
theorem dX8_who_194 : decode cX8_who 194 = .ok (.istore 10, 2) := by decide +kernel
theorem dX8_who_196 : decode cX8_who 196 = .ok (.iinc 8 1, 3) := by decide +kernel
theorem dX8_who_199 : decode cX8_who 199 = .ok (.iinc 12 1, 3) := by decide +kernel
theorem dX8_who_202 : decode cX8_who 202 = .ok (.goto (-98), 3) := by decide +kernel
theorem dX8_who_205 : decode cX8_who 205 = .ok (.iload_n 2, 1) := by decide +kernel
theorem dX8_who_206 : decode cX8_who 206 = .ok (.iconst 2, 1) := by decide +kernel
theorem dX8_who_207 : decode cX8_who 207 = .ok (.if_icmp .ge 8, 3) := by decide +kernel
theorem dX8_who_210 : decode cX8_who 210 = .ok (.iload 7, 2) := by decide +kernel
theorem dX8_who_212 : decode cX8_who 212 = .ok (.goto 25, 3) := by decide +kernel
theorem dX8_who_215 : decode cX8_who 215 = .ok (.iload_n 2, 1) := by decide +kernel
theorem dX8_who_216 : decode cX8_who 216 = .ok (.iconst 2, 1) := by decide +kernel
theorem dX8_who_217 : decode cX8_who 217 = .ok (.if_icmp .ne 8, 3) := by decide +kernel
theorem dX8_who_220 : decode cX8_who 220 = .ok (.iload 8, 2) := by decide +kernel
theorem dX8_who_222 : decode cX8_who 222 = .ok (.goto 15, 3) := by decide +kernel
theorem dX8_who_225 : decode cX8_who 225 = .ok (.iload_n 2, 1) := by decide +kernel
theorem dX8_who_226 : decode cX8_who 226 = .ok (.iconst 3, 1) := by decide +kernel
theorem dX8_who_227 : decode cX8_who 227 = .ok (.if_icmp .ne 8, 3) := by decide +kernel
theorem dX8_who_230 : decode cX8_who 230 = .ok (.iload 9, 2) := by decide +kernel
theorem dX8_who_232 : decode cX8_who 232 = .ok (.goto 5, 3) := by decide +kernel
theorem dX8_who_235 : decode cX8_who 235 = .ok (.iload 10, 2) := by decide +kernel
theorem dX8_who_237 : decode cX8_who 237 = .ok (.ireturn, 1) := by decide +kernel
theorem dX8_winds_0 : decode cX8_winds 0 = .ok (.aload_n 0, 1) := by decide +kernel
theorem dX8_winds_1 : decode cX8_winds 1 = .ok (.iconst 0, 1) := by decide +kernel
theorem dX8_winds_2 : decode cX8_winds 2 = .ok (.putfield 50, 3) := by decide +kernel
theorem dX8_winds_5 : decode cX8_winds 5 = .ok (.aload_n 0, 1) := by decide +kernel
theorem dX8_winds_6 : decode cX8_winds 6 = .ok (.iload_n 1, 1) := by decide +kernel
theorem dX8_winds_7 : decode cX8_winds 7 = .ok (.invokevirtual 208, 3) := by decide +kernel
theorem dX8_winds_10 : decode cX8_winds 10 = .ok (.ifCond .eq 30, 3) := by decide +kernel
theorem dX8_winds_13 : decode cX8_winds 13 = .ok (.iload_n 2, 1) := by decide +kernel
theorem dX8_winds_14 : decode cX8_winds 14 = .ok (.i2l, 1) := by decide +kernel
theorem dX8_winds_15 : decode cX8_winds 15 = .ok (.lconst 0, 1) := by decide +kernel
theorem dX8_winds_16 : decode cX8_winds 16 = .ok (.aload_n 0, 1) := by decide +kernel
theorem dX8_winds_17 : decode cX8_winds 17 = .ok (.getfield 19, 3) := by decide +kernel
theorem dX8_winds_20 : decode cX8_winds 20 = .ok (.iconst 1, 1) := by decide +kernel
theorem dX8_winds_21 : decode cX8_winds 21 = .ok (.iaload, 1) := by decide +kernel
theorem dX8_winds_22 : decode cX8_winds 22 = .ok (.iconst 1, 1) := by decide +kernel
theorem dX8_winds_23 : decode cX8_winds 23 = .ok (.isub, 1) := by decide +kernel
theorem dX8_winds_24 : decode cX8_winds 24 = .ok (.i2l, 1) := by decide +kernel
theorem dX8_winds_25 : decode cX8_winds 25 = .ok (.invokestatic 60, 3) := by decide +kernel
theorem dX8_winds_28 : decode cX8_winds 28 = .ok (.ifCond .eq 12, 3) := by decide +kernel
theorem dX8_winds_31 : decode cX8_winds 31 = .ok (.iload_n 3, 1) := by decide +kernel
theorem dX8_winds_32 : decode cX8_winds 32 = .ok (.iload 5, 2) := by decide +kernel
theorem dX8_winds_34 : decode cX8_winds 34 = .ok (.invokestatic 251, 3) := by decide +kernel
theorem dX8_winds_37 : decode cX8_winds 37 = .ok (.ifCond .ne 6, 3) := by decide +kernel
theorem dX8_winds_40 : decode cX8_winds 40 = .ok (.ldc 70, 2) := by decide +kernel
theorem dX8_winds_42 : decode cX8_winds 42 = .ok (.ireturn, 1) := by decide +kernel
theorem dX8_winds_43 : decode cX8_winds 43 = .ok (.aload_n 0, 1) := by decide +kernel
theorem dX8_winds_44 : decode cX8_winds 44 = .ok (.iload_n 3, 1) := by decide +kernel
theorem dX8_winds_45 : decode cX8_winds 45 = .ok (.iload 4, 2) := by decide +kernel
theorem dX8_winds_47 : decode cX8_winds 47 = .ok (.iload 5, 2) := by decide +kernel
theorem dX8_winds_49 : decode cX8_winds 49 = .ok (.invokevirtual 254, 3) := by decide +kernel
theorem dX8_winds_52 : decode cX8_winds 52 = .ok (.istore 6, 2) := by decide +kernel
theorem dX8_winds_54 : decode cX8_winds 54 = .ok (.iload 6, 2) := by decide +kernel
theorem dX8_winds_56 : decode cX8_winds 56 = .ok (.ifCond .eq 6, 3) := by decide +kernel
theorem dX8_winds_59 : decode cX8_winds 59 = .ok (.iload 6, 2) := by decide +kernel
theorem dX8_winds_61 : decode cX8_winds 61 = .ok (.ireturn, 1) := by decide +kernel
theorem dX8_winds_62 : decode cX8_winds 62 = .ok (.iconst 0, 1) := by decide +kernel
theorem dX8_winds_63 : decode cX8_winds 63 = .ok (.istore 7, 2) := by decide +kernel
theorem dX8_winds_65 : decode cX8_winds 65 = .ok (.iconst 0, 1) := by decide +kernel
theorem dX8_winds_66 : decode cX8_winds 66 = .ok (.istore 8, 2) := by decide +kernel
theorem dX8_winds_68 : decode cX8_winds 68 = .ok (.iload 8, 2) := by decide +kernel
theorem dX8_winds_70 : decode cX8_winds 70 = .ok (.bipush 10, 2) := by decide +kernel
theorem dX8_winds_72 : decode cX8_winds 72 = .ok (.if_icmp .ge 53, 3) := by decide +kernel
theorem dX8_winds_75 : decode cX8_winds 75 = .ok (.aload_n 0, 1) := by decide +kernel
theorem dX8_winds_76 : decode cX8_winds 76 = .ok (.invokevirtual 232, 3) := by decide +kernel
theorem dX8_winds_79 : decode cX8_winds 79 = .ok (.aload_n 0, 1) := by decide +kernel
theorem dX8_winds_80 : decode cX8_winds 80 = .ok (.getfield 25, 3) := by decide +kernel
theorem dX8_winds_83 : decode cX8_winds 83 = .ok (.iconst 5, 1) := by decide +kernel
theorem dX8_winds_84 : decode cX8_winds 84 = .ok (.iload_n 2, 1) := by decide +kernel
theorem dX8_winds_85 : decode cX8_winds 85 = .ok (.iadd, 1) := by decide +kernel
theorem dX8_winds_86 : decode cX8_winds 86 = .ok (.iload 8, 2) := by decide +kernel
theorem dX8_winds_88 : decode cX8_winds 88 = .ok (.iastore, 1) := by decide +kernel
theorem dX8_winds_89 : decode cX8_winds 89 = .ok (.iload 7, 2) := by decide +kernel
theorem dX8_winds_91 : decode cX8_winds 91 = .ok (.aload_n 0, 1) := by decide +kernel
theorem dX8_winds_92 : decode cX8_winds 92 = .ok (.iload_n 1, 1) := by decide +kernel
theorem dX8_winds_93 : decode cX8_winds 93 = .ok (.bipush 40, 2) := by decide +kernel
theorem dX8_winds_95 : decode cX8_winds 95 = .ok (.iload_n 3, 1) := by decide +kernel
theorem dX8_winds_96 : decode cX8_winds 96 = .ok (.imul, 1) := by decide +kernel
theorem dX8_winds_97 : decode cX8_winds 97 = .ok (.iload 4, 2) := by decide +kernel
theorem dX8_winds_99 : decode cX8_winds 99 = .ok (.iadd, 1) := by decide +kernel
theorem dX8_winds_100 : decode cX8_winds 100 = .ok (.iload 5, 2) := by decide +kernel
theorem dX8_winds_102 : decode cX8_winds 102 = .ok (.invokevirtual 258, 3) := by decide +kernel
theorem dX8_winds_105 : decode cX8_winds 105 = .ok (.ifCond .eq 10, 3) := by decide +kernel
theorem dX8_winds_108 : decode cX8_winds 108 = .ok (.iconst 1, 1) := by decide +kernel
theorem dX8_winds_109 : decode cX8_winds 109 = .ok (.iload 8, 2) := by decide +kernel
theorem dX8_winds_111 : decode cX8_winds 111 = .ok (.ishl, 1) := by decide +kernel
theorem dX8_winds_112 : decode cX8_winds 112 = .ok (.goto 4, 3) := by decide +kernel
theorem dX8_winds_115 : decode cX8_winds 115 = .ok (.iconst 0, 1) := by decide +kernel
theorem dX8_winds_116 : decode cX8_winds 116 = .ok (.ior, 1) := by decide +kernel
theorem dX8_winds_117 : decode cX8_winds 117 = .ok (.istore 7, 2) := by decide +kernel
theorem dX8_winds_119 : decode cX8_winds 119 = .ok (.iinc 8 1, 3) := by decide +kernel
theorem dX8_winds_122 : decode cX8_winds 122 = .ok (.goto (-54), 3) := by decide +kernel
theorem dX8_winds_125 : decode cX8_winds 125 = .ok (.iload 7, 2) := by decide +kernel
theorem dX8_winds_127 : decode cX8_winds 127 = .ok (.ireturn, 1) := by decide +kernel
theorem dX8_tapes_0 : decode cX8_tapes 0 = .ok (.aload_n 0, 1) := by decide +kernel
theorem dX8_tapes_1 : decode cX8_tapes 1 = .ok (.iconst 0, 1) := by decide +kernel
theorem dX8_tapes_2 : decode cX8_tapes 2 = .ok (.putfield 50, 3) := by decide +kernel
theorem dX8_tapes_5 : decode cX8_tapes 5 = .ok (.aload_n 0, 1) := by decide +kernel
theorem dX8_tapes_6 : decode cX8_tapes 6 = .ok (.iload_n 1, 1) := by decide +kernel
theorem dX8_tapes_7 : decode cX8_tapes 7 = .ok (.invokevirtual 208, 3) := by decide +kernel
theorem dX8_tapes_10 : decode cX8_tapes 10 = .ok (.ifCond .eq 22, 3) := by decide +kernel
theorem dX8_tapes_13 : decode cX8_tapes 13 = .ok (.iload_n 2, 1) := by decide +kernel
theorem dX8_tapes_14 : decode cX8_tapes 14 = .ok (.i2l, 1) := by decide +kernel
theorem dX8_tapes_15 : decode cX8_tapes 15 = .ok (.lconst 0, 1) := by decide +kernel
theorem dX8_tapes_16 : decode cX8_tapes 16 = .ok (.lconst 1, 1) := by decide +kernel
theorem dX8_tapes_17 : decode cX8_tapes 17 = .ok (.invokestatic 60, 3) := by decide +kernel
theorem dX8_tapes_20 : decode cX8_tapes 20 = .ok (.ifCond .eq 12, 3) := by decide +kernel
theorem dX8_tapes_23 : decode cX8_tapes 23 = .ok (.iload_n 3, 1) := by decide +kernel
theorem dX8_tapes_24 : decode cX8_tapes 24 = .ok (.iload 5, 2) := by decide +kernel
theorem dX8_tapes_26 : decode cX8_tapes 26 = .ok (.invokestatic 251, 3) := by decide +kernel
theorem dX8_tapes_29 : decode cX8_tapes 29 = .ok (.ifCond .ne 6, 3) := by decide +kernel
theorem dX8_tapes_32 : decode cX8_tapes 32 = .ok (.ldc 70, 2) := by decide +kernel
theorem dX8_tapes_34 : decode cX8_tapes 34 = .ok (.ireturn, 1) := by decide +kernel
theorem dX8_tapes_35 : decode cX8_tapes 35 = .ok (.aload_n 0, 1) := by decide +kernel
theorem dX8_tapes_36 : decode cX8_tapes 36 = .ok (.iload_n 3, 1) := by decide +kernel
theorem dX8_tapes_37 : decode cX8_tapes 37 = .ok (.iload 4, 2) := by decide +kernel
theorem dX8_tapes_39 : decode cX8_tapes 39 = .ok (.iload 5, 2) := by decide +kernel
theorem dX8_tapes_41 : decode cX8_tapes 41 = .ok (.invokevirtual 254, 3) := by decide +kernel
theorem dX8_tapes_44 : decode cX8_tapes 44 = .ok (.istore 6, 2) := by decide +kernel
theorem dX8_tapes_46 : decode cX8_tapes 46 = .ok (.iload 6, 2) := by decide +kernel
theorem dX8_tapes_48 : decode cX8_tapes 48 = .ok (.ifCond .eq 6, 3) := by decide +kernel
theorem dX8_tapes_51 : decode cX8_tapes 51 = .ok (.iload 6, 2) := by decide +kernel
theorem dX8_tapes_53 : decode cX8_tapes 53 = .ok (.ireturn, 1) := by decide +kernel
theorem dX8_tapes_54 : decode cX8_tapes 54 = .ok (.iconst 0, 1) := by decide +kernel
theorem dX8_tapes_55 : decode cX8_tapes 55 = .ok (.istore 7, 2) := by decide +kernel
theorem dX8_tapes_57 : decode cX8_tapes 57 = .ok (.ldc 93, 2) := by decide +kernel
theorem dX8_tapes_59 : decode cX8_tapes 59 = .ok (.istore 8, 2) := by decide +kernel
theorem dX8_tapes_61 : decode cX8_tapes 61 = .ok (.bipush 99, 2) := by decide +kernel
theorem dX8_tapes_63 : decode cX8_tapes 63 = .ok (.istore 9, 2) := by decide +kernel
theorem dX8_tapes_65 : decode cX8_tapes 65 = .ok (.iload 9, 2) := by decide +kernel
theorem dX8_tapes_67 : decode cX8_tapes 67 = .ok (.ifCond .le 45, 3) := by decide +kernel
theorem dX8_tapes_70 : decode cX8_tapes 70 = .ok (.aload_n 0, 1) := by decide +kernel
theorem dX8_tapes_71 : decode cX8_tapes 71 = .ok (.invokevirtual 232, 3) := by decide +kernel
theorem dX8_tapes_74 : decode cX8_tapes 74 = .ok (.aload_n 0, 1) := by decide +kernel
theorem dX8_tapes_75 : decode cX8_tapes 75 = .ok (.getfield 25, 3) := by decide +kernel
theorem dX8_tapes_78 : decode cX8_tapes 78 = .ok (.iconst 3, 1) := by decide +kernel
theorem dX8_tapes_79 : decode cX8_tapes 79 = .ok (.iload 9, 2) := by decide +kernel
theorem dX8_tapes_81 : decode cX8_tapes 81 = .ok (.iastore, 1) := by decide +kernel
theorem dX8_tapes_82 : decode cX8_tapes 82 = .ok (.aload_n 0, 1) := by decide +kernel
theorem dX8_tapes_83 : decode cX8_tapes 83 = .ok (.iload_n 1, 1) := by decide +kernel
theorem dX8_tapes_84 : decode cX8_tapes 84 = .ok (.bipush 40, 2) := by decide +kernel
theorem dX8_tapes_86 : decode cX8_tapes 86 = .ok (.iload_n 3, 1) := by decide +kernel
theorem dX8_tapes_87 : decode cX8_tapes 87 = .ok (.imul, 1) := by decide +kernel
theorem dX8_tapes_88 : decode cX8_tapes 88 = .ok (.iload 4, 2) := by decide +kernel
theorem dX8_tapes_90 : decode cX8_tapes 90 = .ok (.iadd, 1) := by decide +kernel
theorem dX8_tapes_91 : decode cX8_tapes 91 = .ok (.iload 5, 2) := by decide +kernel
theorem dX8_tapes_93 : decode cX8_tapes 93 = .ok (.invokevirtual 258, 3) := by decide +kernel
theorem dX8_tapes_96 : decode cX8_tapes 96 = .ok (.ifCond .eq 10, 3) := by decide +kernel
theorem dX8_tapes_99 : decode cX8_tapes 99 = .ok (.iinc 7 1, 3) := by decide +kernel
theorem dX8_tapes_102 : decode cX8_tapes 102 = .ok (.iload 9, 2) := by decide +kernel
theorem dX8_tapes_104 : decode cX8_tapes 104 = .ok (.istore 8, 2) := by decide +kernel
theorem dX8_tapes_106 : decode cX8_tapes 106 = .ok (.iinc 9 (-1), 3) := by decide +kernel
theorem dX8_tapes_109 : decode cX8_tapes 109 = .ok (.goto (-44), 3) := by decide +kernel
theorem dX8_tapes_112 : decode cX8_tapes 112 = .ok (.iload_n 2, 1) := by decide +kernel
theorem dX8_tapes_113 : decode cX8_tapes 113 = .ok (.ifCond .ne 8, 3) := by decide +kernel
theorem dX8_tapes_116 : decode cX8_tapes 116 = .ok (.iload 7, 2) := by decide +kernel
theorem dX8_tapes_118 : decode cX8_tapes 118 = .ok (.goto 5, 3) := by decide +kernel
theorem dX8_tapes_121 : decode cX8_tapes 121 = .ok (.iload 8, 2) := by decide +kernel
theorem dX8_tapes_123 : decode cX8_tapes 123 = .ok (.ireturn, 1) := by decide +kernel
theorem dX8_calm_0 : decode cX8_calm 0 = .ok (.aload_n 0, 1) := by decide +kernel
theorem dX8_calm_1 : decode cX8_calm 1 = .ok (.iconst 0, 1) := by decide +kernel
theorem dX8_calm_2 : decode cX8_calm 2 = .ok (.putfield 50, 3) := by decide +kernel
theorem dX8_calm_5 : decode cX8_calm 5 = .ok (.aload_n 0, 1) := by decide +kernel
theorem dX8_calm_6 : decode cX8_calm 6 = .ok (.iload_n 1, 1) := by decide +kernel
theorem dX8_calm_7 : decode cX8_calm 7 = .ok (.invokevirtual 208, 3) := by decide +kernel
theorem dX8_calm_10 : decode cX8_calm 10 = .ok (.ifCond .eq 38, 3) := by decide +kernel
theorem dX8_calm_13 : decode cX8_calm 13 = .ok (.iload_n 2, 1) := by decide +kernel
theorem dX8_calm_14 : decode cX8_calm 14 = .ok (.i2l, 1) := by decide +kernel
theorem dX8_calm_15 : decode cX8_calm 15 = .ok (.lconst 0, 1) := by decide +kernel
theorem dX8_calm_16 : decode cX8_calm 16 = .ok (.ldc2_w 262, 3) := by decide +kernel
theorem dX8_calm_19 : decode cX8_calm 19 = .ok (.invokestatic 60, 3) := by decide +kernel
theorem dX8_calm_22 : decode cX8_calm 22 = .ok (.ifCond .eq 26, 3) := by decide +kernel
theorem dX8_calm_25 : decode cX8_calm 25 = .ok (.iload_n 3, 1) := by decide +kernel
theorem dX8_calm_26 : decode cX8_calm 26 = .ok (.i2l, 1) := by decide +kernel
theorem dX8_calm_27 : decode cX8_calm 27 = .ok (.lconst 0, 1) := by decide +kernel
theorem dX8_calm_28 : decode cX8_calm 28 = .ok (.ldc2_w 264, 3) := by decide +kernel
theorem dX8_calm_31 : decode cX8_calm 31 = .ok (.invokestatic 60, 3) := by decide +kernel
theorem dX8_calm_34 : decode cX8_calm 34 = .ok (.ifCond .eq 14, 3) := by decide +kernel
theorem dX8_calm_37 : decode cX8_calm 37 = .ok (.iload 4, 2) := by decide +kernel
theorem dX8_calm_39 : decode cX8_calm 39 = .ok (.i2l, 1) := by decide +kernel
theorem dX8_calm_40 : decode cX8_calm 40 = .ok (.lconst 0, 1) := by decide +kernel
theorem dX8_calm_41 : decode cX8_calm 41 = .ok (.lconst 1, 1) := by decide +kernel
theorem dX8_calm_42 : decode cX8_calm 42 = .ok (.invokestatic 60, 3) := by decide +kernel
theorem dX8_calm_45 : decode cX8_calm 45 = .ok (.ifCond .ne 7, 3) := by decide +kernel
theorem dX8_calm_48 : decode cX8_calm 48 = .ok (.ldc2_w 266, 3) := by decide +kernel
theorem dX8_calm_51 : decode cX8_calm 51 = .ok (.lreturn, 1) := by decide +kernel
theorem dX8_calm_52 : decode cX8_calm 52 = .ok (.lconst 0, 1) := by decide +kernel
theorem dX8_calm_53 : decode cX8_calm 53 = .ok (.lstore 5, 2) := by decide +kernel
theorem dX8_calm_55 : decode cX8_calm 55 = .ok (.lconst 0, 1) := by decide +kernel
theorem dX8_calm_56 : decode cX8_calm 56 = .ok (.lstore 7, 2) := by decide +kernel
theorem dX8_calm_58 : decode cX8_calm 58 = .ok (.iconst 0, 1) := by decide +kernel
theorem dX8_calm_59 : decode cX8_calm 59 = .ok (.istore 9, 2) := by decide +kernel
theorem dX8_calm_61 : decode cX8_calm 61 = .ok (.iload 9, 2) := by decide +kernel
theorem dX8_calm_63 : decode cX8_calm 63 = .ok (.iconst 1, 1) := by decide +kernel
theorem dX8_calm_64 : decode cX8_calm 64 = .ok (.iload_n 2, 1) := by decide +kernel
theorem dX8_calm_65 : decode cX8_calm 65 = .ok (.ishl, 1) := by decide +kernel
theorem dX8_calm_66 : decode cX8_calm 66 = .ok (.if_icmp .ge 123, 3) := by decide +kernel
theorem dX8_calm_69 : decode cX8_calm 69 = .ok (.lconst 1, 1) := by decide +kernel
theorem dX8_calm_70 : decode cX8_calm 70 = .ok (.lstore 10, 2) := by decide +kernel
theorem dX8_calm_72 : decode cX8_calm 72 = .ok (.aload_n 0, 1) := by decide +kernel
theorem dX8_calm_73 : decode cX8_calm 73 = .ok (.invokevirtual 232, 3) := by decide +kernel
theorem dX8_calm_76 : decode cX8_calm 76 = .ok (.iconst 0, 1) := by decide +kernel
theorem dX8_calm_77 : decode cX8_calm 77 = .ok (.istore 12, 2) := by decide +kernel
theorem dX8_calm_79 : decode cX8_calm 79 = .ok (.iload 12, 2) := by decide +kernel
theorem dX8_calm_81 : decode cX8_calm 81 = .ok (.iload_n 2, 1) := by decide +kernel
theorem dX8_calm_82 : decode cX8_calm 82 = .ok (.if_icmp .ge 72, 3) := by decide +kernel
theorem dX8_calm_85 : decode cX8_calm 85 = .ok (.lload 10, 2) := by decide +kernel
theorem dX8_calm_87 : decode cX8_calm 87 = .ok (.iload 9, 2) := by decide +kernel
theorem dX8_calm_89 : decode cX8_calm 89 = .ok (.iload 12, 2) := by decide +kernel
theorem dX8_calm_91 : decode cX8_calm 91 = .ok (.ishr, 1) := by decide +kernel
theorem dX8_calm_92 : decode cX8_calm 92 = .ok (.iconst 1, 1) := by decide +kernel
theorem dX8_calm_93 : decode cX8_calm 93 = .ok (.iand, 1) := by decide +kernel
theorem dX8_calm_94 : decode cX8_calm 94 = .ok (.iconst 1, 1) := by decide +kernel
theorem dX8_calm_95 : decode cX8_calm 95 = .ok (.if_icmp .ne 8, 3) := by decide +kernel
theorem dX8_calm_98 : decode cX8_calm 98 = .ok (.iload_n 3, 1) := by decide +kernel
theorem dX8_calm_99 : decode cX8_calm 99 = .ok (.i2l, 1) := by decide +kernel
theorem dX8_calm_100 : decode cX8_calm 100 = .ok (.goto 9, 3) := by decide +kernel
theorem dX8_calm_103 : decode cX8_calm 103 = .ok (.ldc2_w 264, 3) := by decide +kernel
theorem dX8_calm_106 : decode cX8_calm 106 = .ok (.iload_n 3, 1) := by decide +kernel
theorem dX8_calm_107 : decode cX8_calm 107 = .ok (.i2l, 1) := by decide +kernel
theorem dX8_calm_108 : decode cX8_calm 108 = .ok (.lsub, 1) := by decide +kernel
theorem dX8_calm_109 : decode cX8_calm 109 = .ok (.lmul, 1) := by decide +kernel
theorem dX8_calm_110 : decode cX8_calm 110 = .ok (.lstore 10, 2) := by decide +kernel
theorem dX8_calm_112 : decode cX8_calm 112 = .ok (.aload_n 0, 1) := by decide +kernel
theorem dX8_calm_113 : decode cX8_calm 113 = .ok (.aload_n 0, 1) := by decide +kernel
theorem dX8_calm_114 : decode cX8_calm 114 = .ok (.getfield 25, 3) := by decide +kernel
theorem dX8_calm_117 : decode cX8_calm 117 = .ok (.iload 9, 2) := by decide +kernel
theorem dX8_calm_119 : decode cX8_calm 119 = .ok (.iload 12, 2) := by decide +kernel
theorem dX8_calm_121 : decode cX8_calm 121 = .ok (.ishr, 1) := by decide +kernel
theorem dX8_calm_122 : decode cX8_calm 122 = .ok (.iconst 1, 1) := by decide +kernel
theorem dX8_calm_123 : decode cX8_calm 123 = .ok (.iand, 1) := by decide +kernel
theorem dX8_calm_124 : decode cX8_calm 124 = .ok (.iconst 1, 1) := by decide +kernel
theorem dX8_calm_125 : decode cX8_calm 125 = .ok (.if_icmp .ne 7, 3) := by decide +kernel
theorem dX8_calm_128 : decode cX8_calm 128 = .ok (.iconst 0, 1) := by decide +kernel
theorem dX8_calm_129 : decode cX8_calm 129 = .ok (.goto 16, 3) := by decide +kernel
theorem dX8_calm_132 : decode cX8_calm 132 = .ok (.aload_n 0, 1) := by decide +kernel
theorem dX8_calm_133 : decode cX8_calm 133 = .ok (.getfield 25, 3) := by decide +kernel
theorem dX8_calm_136 : decode cX8_calm 136 = .ok (.aload_n 0, 1) := by decide +kernel
theorem dX8_calm_137 : decode cX8_calm 137 = .ok (.getfield 25, 3) := by decide +kernel
theorem dX8_calm_140 : decode cX8_calm 140 = .ok (.iconst 4, 1) := by decide +kernel
theorem dX8_calm_141 : decode cX8_calm 141 = .ok (.iaload, 1) := by decide +kernel
theorem dX8_calm_142 : decode cX8_calm 142 = .ok (.invokestatic 180, 3) := by decide +kernel
theorem dX8_calm_145 : decode cX8_calm 145 = .ok (.invokevirtual 184, 3) := by decide +kernel
theorem dX8_calm_148 : decode cX8_calm 148 = .ok (.iinc 12 1, 3) := by decide +kernel
theorem dX8_calm_151 : decode cX8_calm 151 = .ok (.goto (-72), 3) := by decide +kernel
theorem dX8_calm_154 : decode cX8_calm 154 = .ok (.lload 7, 2) := by decide +kernel
theorem dX8_calm_156 : decode cX8_calm 156 = .ok (.lload 10, 2) := by decide +kernel
theorem dX8_calm_158 : decode cX8_calm 158 = .ok (.ladd, 1) := by decide +kernel
theorem dX8_calm_159 : decode cX8_calm 159 = .ok (.lstore 7, 2) := by decide +kernel
theorem dX8_calm_161 : decode cX8_calm 161 = .ok (.lload 5, 2) := by decide +kernel
theorem dX8_calm_163 : decode cX8_calm 163 = .ok (.aload_n 0, 1) := by decide +kernel
theorem dX8_calm_164 : decode cX8_calm 164 = .ok (.getfield 25, 3) := by decide +kernel
theorem dX8_calm_167 : decode cX8_calm 167 = .ok (.iload_n 1, 1) := by decide +kernel
theorem dX8_calm_168 : decode cX8_calm 168 = .ok (.invokestatic 192, 3) := by decide +kernel
theorem dX8_calm_171 : decode cX8_calm 171 = .ok (.ifCond .eq 8, 3) := by decide +kernel
theorem dX8_calm_174 : decode cX8_calm 174 = .ok (.lload 10, 2) := by decide +kernel
theorem dX8_calm_176 : decode cX8_calm 176 = .ok (.goto 4, 3) := by decide +kernel
theorem dX8_calm_179 : decode cX8_calm 179 = .ok (.lconst 0, 1) := by decide +kernel
theorem dX8_calm_180 : decode cX8_calm 180 = .ok (.ladd, 1) := by decide +kernel
theorem dX8_calm_181 : decode cX8_calm 181 = .ok (.lstore 5, 2) := by decide +kernel
theorem dX8_calm_183 : decode cX8_calm 183 = .ok (.iinc 9 1, 3) := by decide +kernel
theorem dX8_calm_186 : decode cX8_calm 186 = .ok (.goto (-125), 3) := by decide +kernel
theorem dX8_calm_189 : decode cX8_calm 189 = .ok (.lload 5, 2) := by decide +kernel
theorem dX8_calm_191 : decode cX8_calm 191 = .ok (.lstore 9, 2) := by decide +kernel
theorem dX8_calm_193 : decode cX8_calm 193 = .ok (.lload 7, 2) := by decide +kernel
theorem dX8_calm_195 : decode cX8_calm 195 = .ok (.lstore 11, 2) := by decide +kernel
theorem dX8_calm_197 : decode cX8_calm 197 = .ok (.lload 11, 2) := by decide +kernel
theorem dX8_calm_199 : decode cX8_calm 199 = .ok (.lconst 0, 1) := by decide +kernel
theorem dX8_calm_200 : decode cX8_calm 200 = .ok (.lcmp, 1) := by decide +kernel
theorem dX8_calm_201 : decode cX8_calm 201 = .ok (.ifCond .eq 21, 3) := by decide +kernel
theorem dX8_calm_204 : decode cX8_calm 204 = .ok (.lload 9, 2) := by decide +kernel
theorem dX8_calm_206 : decode cX8_calm 206 = .ok (.lload 11, 2) := by decide +kernel
theorem dX8_calm_208 : decode cX8_calm 208 = .ok (.lrem, 1) := by decide +kernel
theorem dX8_calm_209 : decode cX8_calm 209 = .ok (.lstore 13, 2) := by decide +kernel
theorem dX8_calm_211 : decode cX8_calm 211 = .ok (.lload 11, 2) := by decide +kernel
theorem dX8_calm_213 : decode cX8_calm 213 = .ok (.lstore 9, 2) := by decide +kernel
theorem dX8_calm_215 : decode cX8_calm 215 = .ok (.lload 13, 2) := by decide +kernel
theorem dX8_calm_217 : decode cX8_calm 217 = .ok (.lstore 11, 2) := by decide +kernel
theorem dX8_calm_219 : decode cX8_calm 219 = .ok (.goto (-22), 3) := by decide +kernel
theorem dX8_calm_222 : decode cX8_calm 222 = .ok (.iload 4, 2) := by decide +kernel
theorem dX8_calm_224 : decode cX8_calm 224 = .ok (.ifCond .ne 8, 3) := by decide +kernel
theorem dX8_calm_227 : decode cX8_calm 227 = .ok (.lload 5, 2) := by decide +kernel
theorem dX8_calm_229 : decode cX8_calm 229 = .ok (.goto 5, 3) := by decide +kernel
theorem dX8_calm_232 : decode cX8_calm 232 = .ok (.lload 7, 2) := by decide +kernel
theorem dX8_calm_234 : decode cX8_calm 234 = .ok (.lload 9, 2) := by decide +kernel
theorem dX8_calm_236 : decode cX8_calm 236 = .ok (.ldiv, 1) := by decide +kernel
theorem dX8_calm_237 : decode cX8_calm 237 = .ok (.lreturn, 1) := by decide +kernel
theorem dX8_drawn_0 : decode cX8_drawn 0 = .ok (.aload_n 0, 1) := by decide +kernel
theorem dX8_drawn_1 : decode cX8_drawn 1 = .ok (.iconst 0, 1) := by decide +kernel
theorem dX8_drawn_2 : decode cX8_drawn 2 = .ok (.putfield 50, 3) := by decide +kernel
theorem dX8_drawn_5 : decode cX8_drawn 5 = .ok (.aload_n 0, 1) := by decide +kernel
theorem dX8_drawn_6 : decode cX8_drawn 6 = .ok (.invokevirtual 195, 3) := by decide +kernel
theorem dX8_drawn_9 : decode cX8_drawn 9 = .ok (.ifCond .ne 6, 3) := by decide +kernel
theorem dX8_drawn_12 : decode cX8_drawn 12 = .ok (.ldc 198, 2) := by decide +kernel
theorem dX8_drawn_14 : decode cX8_drawn 14 = .ok (.ireturn, 1) := by decide +kernel
theorem dX8_drawn_15 : decode cX8_drawn 15 = .ok (.iload_n 1, 1) := by decide +kernel
theorem dX8_drawn_16 : decode cX8_drawn 16 = .ok (.i2l, 1) := by decide +kernel
theorem dX8_drawn_17 : decode cX8_drawn 17 = .ok (.lconst 0, 1) := by decide +kernel
theorem dX8_drawn_18 : decode cX8_drawn 18 = .ok (.ldc2_w 225, 3) := by decide +kernel
theorem dX8_drawn_21 : decode cX8_drawn 21 = .ok (.invokestatic 60, 3) := by decide +kernel
theorem dX8_drawn_24 : decode cX8_drawn 24 = .ok (.ifCond .eq 25, 3) := by decide +kernel
theorem dX8_drawn_27 : decode cX8_drawn 27 = .ok (.iload_n 2, 1) := by decide +kernel
theorem dX8_drawn_28 : decode cX8_drawn 28 = .ok (.i2l, 1) := by decide +kernel
theorem dX8_drawn_29 : decode cX8_drawn 29 = .ok (.lconst 1, 1) := by decide +kernel
theorem dX8_drawn_30 : decode cX8_drawn 30 = .ok (.ldc2_w 268, 3) := by decide +kernel
theorem dX8_drawn_33 : decode cX8_drawn 33 = .ok (.invokestatic 60, 3) := by decide +kernel
theorem dX8_drawn_36 : decode cX8_drawn 36 = .ok (.ifCond .eq 13, 3) := by decide +kernel
theorem dX8_drawn_39 : decode cX8_drawn 39 = .ok (.iload_n 3, 1) := by decide +kernel
theorem dX8_drawn_40 : decode cX8_drawn 40 = .ok (.i2l, 1) := by decide +kernel
theorem dX8_drawn_41 : decode cX8_drawn 41 = .ok (.lconst 0, 1) := by decide +kernel
theorem dX8_drawn_42 : decode cX8_drawn 42 = .ok (.lconst 1, 1) := by decide +kernel
theorem dX8_drawn_43 : decode cX8_drawn 43 = .ok (.invokestatic 60, 3) := by decide +kernel
theorem dX8_drawn_46 : decode cX8_drawn 46 = .ok (.ifCond .ne 6, 3) := by decide +kernel
theorem dX8_drawn_49 : decode cX8_drawn 49 = .ok (.ldc 70, 2) := by decide +kernel
theorem dX8_drawn_51 : decode cX8_drawn 51 = .ok (.ireturn, 1) := by decide +kernel
theorem dX8_drawn_52 : decode cX8_drawn 52 = .ok (.aload_n 0, 1) := by decide +kernel
theorem dX8_drawn_53 : decode cX8_drawn 53 = .ok (.invokevirtual 232, 3) := by decide +kernel
theorem dX8_drawn_56 : decode cX8_drawn 56 = .ok (.iload_n 2, 1) := by decide +kernel
theorem dX8_drawn_57 : decode cX8_drawn 57 = .ok (.i2l, 1) := by decide +kernel
theorem dX8_drawn_58 : decode cX8_drawn 58 = .ok (.lstore 4, 2) := by decide +kernel
theorem dX8_drawn_60 : decode cX8_drawn 60 = .ok (.iconst 0, 1) := by decide +kernel
theorem dX8_drawn_61 : decode cX8_drawn 61 = .ok (.istore 6, 2) := by decide +kernel
theorem dX8_drawn_63 : decode cX8_drawn 63 = .ok (.iload 6, 2) := by decide +kernel
theorem dX8_drawn_65 : decode cX8_drawn 65 = .ok (.iload_n 1, 1) := by decide +kernel
theorem dX8_drawn_66 : decode cX8_drawn 66 = .ok (.if_icmp .ge 143, 3) := by decide +kernel
theorem dX8_drawn_69 : decode cX8_drawn 69 = .ok (.lload 4, 2) := by decide +kernel
theorem dX8_drawn_71 : decode cX8_drawn 71 = .ok (.ldc2_w 270, 3) := by decide +kernel
theorem dX8_drawn_74 : decode cX8_drawn 74 = .ok (.lmul, 1) := by decide +kernel
theorem dX8_drawn_75 : decode cX8_drawn 75 = .ok (.ldc2_w 272, 3) := by decide +kernel
theorem dX8_drawn_78 : decode cX8_drawn 78 = .ok (.lrem, 1) := by decide +kernel
theorem dX8_drawn_79 : decode cX8_drawn 79 = .ok (.lstore 4, 2) := by decide +kernel
theorem dX8_drawn_81 : decode cX8_drawn 81 = .ok (.lload 4, 2) := by decide +kernel
theorem dX8_drawn_83 : decode cX8_drawn 83 = .ok (.aload_n 0, 1) := by decide +kernel
theorem dX8_drawn_84 : decode cX8_drawn 84 = .ok (.getfield 25, 3) := by decide +kernel
theorem dX8_drawn_87 : decode cX8_drawn 87 = .ok (.iconst 0, 1) := by decide +kernel
theorem dX8_drawn_88 : decode cX8_drawn 88 = .ok (.iaload, 1) := by decide +kernel
theorem dX8_drawn_89 : decode cX8_drawn 89 = .ok (.i2l, 1) := by decide +kernel
theorem dX8_drawn_90 : decode cX8_drawn 90 = .ok (.lrem, 1) := by decide +kernel
theorem dX8_drawn_91 : decode cX8_drawn 91 = .ok (.l2i, 1) := by decide +kernel
theorem dX8_drawn_92 : decode cX8_drawn 92 = .ok (.istore 7, 2) := by decide +kernel
theorem dX8_drawn_94 : decode cX8_drawn 94 = .ok (.aload_n 0, 1) := by decide +kernel
theorem dX8_drawn_95 : decode cX8_drawn 95 = .ok (.getfield 25, 3) := by decide +kernel
theorem dX8_drawn_98 : decode cX8_drawn 98 = .ok (.iload 7, 2) := by decide +kernel
theorem dX8_drawn_100 : decode cX8_drawn 100 = .ok (.iconst 3, 1) := by decide +kernel
theorem dX8_drawn_101 : decode cX8_drawn 101 = .ok (.invokestatic 155, 3) := by decide +kernel
theorem dX8_drawn_104 : decode cX8_drawn 104 = .ok (.ifCond .ne 24, 3) := by decide +kernel
theorem dX8_drawn_107 : decode cX8_drawn 107 = .ok (.aload_n 0, 1) := by decide +kernel
theorem dX8_drawn_108 : decode cX8_drawn 108 = .ok (.getfield 25, 3) := by decide +kernel
theorem dX8_drawn_111 : decode cX8_drawn 111 = .ok (.iload 7, 2) := by decide +kernel
theorem dX8_drawn_113 : decode cX8_drawn 113 = .ok (.lload 4, 2) := by decide +kernel
theorem dX8_drawn_115 : decode cX8_drawn 115 = .ok (.ldc2_w 211, 3) := by decide +kernel
theorem dX8_drawn_118 : decode cX8_drawn 118 = .ok (.lrem, 1) := by decide +kernel
theorem dX8_drawn_119 : decode cX8_drawn 119 = .ok (.l2i, 1) := by decide +kernel
theorem dX8_drawn_120 : decode cX8_drawn 120 = .ok (.iconst 1, 1) := by decide +kernel
theorem dX8_drawn_121 : decode cX8_drawn 121 = .ok (.iadd, 1) := by decide +kernel
theorem dX8_drawn_122 : decode cX8_drawn 122 = .ok (.invokestatic 213, 3) := by decide +kernel
theorem dX8_drawn_125 : decode cX8_drawn 125 = .ok (.goto 63, 3) := by decide +kernel
theorem dX8_drawn_128 : decode cX8_drawn 128 = .ok (.aload_n 0, 1) := by decide +kernel
theorem dX8_drawn_129 : decode cX8_drawn 129 = .ok (.getfield 25, 3) := by decide +kernel
theorem dX8_drawn_132 : decode cX8_drawn 132 = .ok (.iload 7, 2) := by decide +kernel
theorem dX8_drawn_134 : decode cX8_drawn 134 = .ok (.invokestatic 159, 3) := by decide +kernel
theorem dX8_drawn_137 : decode cX8_drawn 137 = .ok (.ifCond .eq 51, 3) := by decide +kernel
theorem dX8_drawn_140 : decode cX8_drawn 140 = .ok (.lload 4, 2) := by decide +kernel
theorem dX8_drawn_142 : decode cX8_drawn 142 = .ok (.ldc2_w 68, 3) := by decide +kernel
theorem dX8_drawn_145 : decode cX8_drawn 145 = .ok (.lrem, 1) := by decide +kernel
theorem dX8_drawn_146 : decode cX8_drawn 146 = .ok (.lconst 0, 1) := by decide +kernel
theorem dX8_drawn_147 : decode cX8_drawn 147 = .ok (.lcmp, 1) := by decide +kernel
theorem dX8_drawn_148 : decode cX8_drawn 148 = .ok (.ifCond .ne 40, 3) := by decide +kernel
theorem dX8_drawn_151 : decode cX8_drawn 151 = .ok (.aload_n 0, 1) := by decide +kernel
theorem dX8_drawn_152 : decode cX8_drawn 152 = .ok (.getfield 25, 3) := by decide +kernel
theorem dX8_drawn_155 : decode cX8_drawn 155 = .ok (.iload 7, 2) := by decide +kernel
theorem dX8_drawn_157 : decode cX8_drawn 157 = .ok (.iconst 5, 1) := by decide +kernel
theorem dX8_drawn_158 : decode cX8_drawn 158 = .ok (.invokestatic 155, 3) := by decide +kernel
theorem dX8_drawn_161 : decode cX8_drawn 161 = .ok (.iconst 5, 1) := by decide +kernel
theorem dX8_drawn_162 : decode cX8_drawn 162 = .ok (.iadd, 1) := by decide +kernel
theorem dX8_drawn_163 : decode cX8_drawn 163 = .ok (.istore 8, 2) := by decide +kernel
theorem dX8_drawn_165 : decode cX8_drawn 165 = .ok (.aload_n 0, 1) := by decide +kernel
theorem dX8_drawn_166 : decode cX8_drawn 166 = .ok (.getfield 25, 3) := by decide +kernel
theorem dX8_drawn_169 : decode cX8_drawn 169 = .ok (.iload 7, 2) := by decide +kernel
theorem dX8_drawn_171 : decode cX8_drawn 171 = .ok (.iload 8, 2) := by decide +kernel
theorem dX8_drawn_173 : decode cX8_drawn 173 = .ok (.bipush 40, 2) := by decide +kernel
theorem dX8_drawn_175 : decode cX8_drawn 175 = .ok (.if_icmp .le 8, 3) := by decide +kernel
theorem dX8_drawn_178 : decode cX8_drawn 178 = .ok (.bipush 40, 2) := by decide +kernel
theorem dX8_drawn_180 : decode cX8_drawn 180 = .ok (.goto 5, 3) := by decide +kernel
theorem dX8_drawn_183 : decode cX8_drawn 183 = .ok (.iload 8, 2) := by decide +kernel
theorem dX8_drawn_185 : decode cX8_drawn 185 = .ok (.invokestatic 222, 3) := by decide +kernel
theorem dX8_drawn_188 : decode cX8_drawn 188 = .ok (.aload_n 0, 1) := by decide +kernel
theorem dX8_drawn_189 : decode cX8_drawn 189 = .ok (.aload_n 0, 1) := by decide +kernel
theorem dX8_drawn_190 : decode cX8_drawn 190 = .ok (.getfield 25, 3) := by decide +kernel
theorem dX8_drawn_193 : decode cX8_drawn 193 = .ok (.lload 4, 2) := by decide +kernel
theorem dX8_drawn_195 : decode cX8_drawn 195 = .ok (.ldc2_w 264, 3) := by decide +kernel
theorem dX8_drawn_198 : decode cX8_drawn 198 = .ok (.lrem, 1) := by decide +kernel
theorem dX8_drawn_199 : decode cX8_drawn 199 = .ok (.l2i, 1) := by decide +kernel
theorem dX8_drawn_200 : decode cX8_drawn 200 = .ok (.invokevirtual 184, 3) := by decide +kernel
theorem dX8_drawn_203 : decode cX8_drawn 203 = .ok (.iinc 6 1, 3) := by decide +kernel
theorem dX8_drawn_206 : decode cX8_drawn 206 = .ok (.goto (-143), 3) := by decide +kernel
theorem dX8_drawn_209 : decode cX8_drawn 209 = .ok (.iload_n 3, 1) := by decide +kernel
theorem dX8_drawn_210 : decode cX8_drawn 210 = .ok (.ifCond .ne 13, 3) := by decide +kernel
theorem dX8_drawn_213 : decode cX8_drawn 213 = .ok (.aload_n 0, 1) := by decide +kernel
theorem dX8_drawn_214 : decode cX8_drawn 214 = .ok (.getfield 25, 3) := by decide +kernel
theorem dX8_drawn_217 : decode cX8_drawn 217 = .ok (.invokestatic 204, 3) := by decide +kernel
theorem dX8_drawn_220 : decode cX8_drawn 220 = .ok (.goto 11, 3) := by decide +kernel
theorem dX8_drawn_223 : decode cX8_drawn 223 = .ok (.aload_n 0, 1) := by decide +kernel
theorem dX8_drawn_224 : decode cX8_drawn 224 = .ok (.getfield 25, 3) := by decide +kernel
theorem dX8_drawn_227 : decode cX8_drawn 227 = .ok (.iconst 2, 1) := by decide +kernel
theorem dX8_drawn_228 : decode cX8_drawn 228 = .ok (.invokestatic 217, 3) := by decide +kernel
theorem dX8_drawn_231 : decode cX8_drawn 231 = .ok (.invokestatic 244, 3) := by decide +kernel
theorem dX8_drawn_234 : decode cX8_drawn 234 = .ok (.ireturn, 1) := by decide +kernel
theorem dX8_image_0 : decode cX8_image 0 = .ok (.aload_n 0, 1) := by decide +kernel
theorem dX8_image_1 : decode cX8_image 1 = .ok (.iconst 0, 1) := by decide +kernel
theorem dX8_image_2 : decode cX8_image 2 = .ok (.putfield 50, 3) := by decide +kernel
theorem dX8_image_5 : decode cX8_image 5 = .ok (.iload_n 1, 1) := by decide +kernel
theorem dX8_image_6 : decode cX8_image 6 = .ok (.i2l, 1) := by decide +kernel
theorem dX8_image_7 : decode cX8_image 7 = .ok (.lconst 0, 1) := by decide +kernel
theorem dX8_image_8 : decode cX8_image 8 = .ok (.lconst 1, 1) := by decide +kernel
theorem dX8_image_9 : decode cX8_image 9 = .ok (.invokestatic 60, 3) := by decide +kernel
theorem dX8_image_12 : decode cX8_image 12 = .ok (.ifCond .ne 6, 3) := by decide +kernel
theorem dX8_image_15 : decode cX8_image 15 = .ok (.ldc 70, 2) := by decide +kernel
theorem dX8_image_17 : decode cX8_image 17 = .ok (.ireturn, 1) := by decide +kernel
theorem dX8_image_18 : decode cX8_image 18 = .ok (.aload_n 0, 1) := by decide +kernel
theorem dX8_image_19 : decode cX8_image 19 = .ok (.invokevirtual 195, 3) := by decide +kernel
theorem dX8_image_22 : decode cX8_image 22 = .ok (.ifCond .ne 6, 3) := by decide +kernel
theorem dX8_image_25 : decode cX8_image 25 = .ok (.ldc 198, 2) := by decide +kernel
theorem dX8_image_27 : decode cX8_image 27 = .ok (.ireturn, 1) := by decide +kernel
theorem dX8_image_28 : decode cX8_image 28 = .ok (.iconst 0, 1) := by decide +kernel
theorem dX8_image_29 : decode cX8_image 29 = .ok (.istore_n 2, 1) := by decide +kernel
theorem dX8_image_30 : decode cX8_image 30 = .ok (.iload_n 2, 1) := by decide +kernel
theorem dX8_image_31 : decode cX8_image 31 = .ok (.bipush 53, 2) := by decide +kernel
theorem dX8_image_33 : decode cX8_image 33 = .ok (.if_icmp .ge 26, 3) := by decide +kernel
theorem dX8_image_36 : decode cX8_image 36 = .ok (.aload_n 0, 1) := by decide +kernel
theorem dX8_image_37 : decode cX8_image 37 = .ok (.getfield 44, 3) := by decide +kernel
theorem dX8_image_40 : decode cX8_image 40 = .ok (.bipush 53, 2) := by decide +kernel
theorem dX8_image_42 : decode cX8_image 42 = .ok (.iload_n 1, 1) := by decide +kernel
theorem dX8_image_43 : decode cX8_image 43 = .ok (.imul, 1) := by decide +kernel
theorem dX8_image_44 : decode cX8_image 44 = .ok (.iload_n 2, 1) := by decide +kernel
theorem dX8_image_45 : decode cX8_image 45 = .ok (.iadd, 1) := by decide +kernel
theorem dX8_image_46 : decode cX8_image 46 = .ok (.aload_n 0, 1) := by decide +kernel
theorem dX8_image_47 : decode cX8_image 47 = .ok (.getfield 19, 3) := by decide +kernel
theorem dX8_image_50 : decode cX8_image 50 = .ok (.iload_n 2, 1) := by decide +kernel
theorem dX8_image_51 : decode cX8_image 51 = .ok (.iaload, 1) := by decide +kernel
theorem dX8_image_52 : decode cX8_image 52 = .ok (.iastore, 1) := by decide +kernel
theorem dX8_image_53 : decode cX8_image 53 = .ok (.iinc 2 1, 3) := by decide +kernel
theorem dX8_image_56 : decode cX8_image 56 = .ok (.goto (-26), 3) := by decide +kernel
theorem dX8_image_59 : decode cX8_image 59 = .ok (.aload_n 0, 1) := by decide +kernel
theorem dX8_image_60 : decode cX8_image 60 = .ok (.getfield 40, 3) := by decide +kernel
theorem dX8_image_63 : decode cX8_image 63 = .ok (.iload_n 1, 1) := by decide +kernel
theorem dX8_image_64 : decode cX8_image 64 = .ok (.iconst 1, 1) := by decide +kernel
theorem dX8_image_65 : decode cX8_image 65 = .ok (.bastore, 1) := by decide +kernel
theorem dX8_image_66 : decode cX8_image 66 = .ok (.iconst 1, 1) := by decide +kernel
theorem dX8_image_67 : decode cX8_image 67 = .ok (.ireturn, 1) := by decide +kernel
theorem dX8_restore_0 : decode cX8_restore 0 = .ok (.aload_n 0, 1) := by decide +kernel
theorem dX8_restore_1 : decode cX8_restore 1 = .ok (.iconst 0, 1) := by decide +kernel
theorem dX8_restore_2 : decode cX8_restore 2 = .ok (.putfield 50, 3) := by decide +kernel
theorem dX8_restore_5 : decode cX8_restore 5 = .ok (.iload_n 1, 1) := by decide +kernel
theorem dX8_restore_6 : decode cX8_restore 6 = .ok (.i2l, 1) := by decide +kernel
theorem dX8_restore_7 : decode cX8_restore 7 = .ok (.lconst 0, 1) := by decide +kernel
theorem dX8_restore_8 : decode cX8_restore 8 = .ok (.lconst 1, 1) := by decide +kernel
theorem dX8_restore_9 : decode cX8_restore 9 = .ok (.invokestatic 60, 3) := by decide +kernel
theorem dX8_restore_12 : decode cX8_restore 12 = .ok (.ifCond .ne 6, 3) := by decide +kernel
theorem dX8_restore_15 : decode cX8_restore 15 = .ok (.ldc 70, 2) := by decide +kernel
theorem dX8_restore_17 : decode cX8_restore 17 = .ok (.ireturn, 1) := by decide +kernel
theorem dX8_restore_18 : decode cX8_restore 18 = .ok (.aload_n 0, 1) := by decide +kernel
theorem dX8_restore_19 : decode cX8_restore 19 = .ok (.getfield 40, 3) := by decide +kernel
theorem dX8_restore_22 : decode cX8_restore 22 = .ok (.iload_n 1, 1) := by decide +kernel
theorem dX8_restore_23 : decode cX8_restore 23 = .ok (.baload, 1) := by decide +kernel
theorem dX8_restore_24 : decode cX8_restore 24 = .ok (.ifCond .ne 6, 3) := by decide +kernel
theorem dX8_restore_27 : decode cX8_restore 27 = .ok (.ldc 198, 2) := by decide +kernel
theorem dX8_restore_29 : decode cX8_restore 29 = .ok (.ireturn, 1) := by decide +kernel
theorem dX8_restore_30 : decode cX8_restore 30 = .ok (.iconst 0, 1) := by decide +kernel
theorem dX8_restore_31 : decode cX8_restore 31 = .ok (.istore_n 2, 1) := by decide +kernel
theorem dX8_restore_32 : decode cX8_restore 32 = .ok (.iload_n 2, 1) := by decide +kernel
theorem dX8_restore_33 : decode cX8_restore 33 = .ok (.bipush 53, 2) := by decide +kernel
theorem dX8_restore_35 : decode cX8_restore 35 = .ok (.if_icmp .ge 26, 3) := by decide +kernel
theorem dX8_restore_38 : decode cX8_restore 38 = .ok (.aload_n 0, 1) := by decide +kernel
theorem dX8_restore_39 : decode cX8_restore 39 = .ok (.getfield 19, 3) := by decide +kernel
theorem dX8_restore_42 : decode cX8_restore 42 = .ok (.iload_n 2, 1) := by decide +kernel
theorem dX8_restore_43 : decode cX8_restore 43 = .ok (.aload_n 0, 1) := by decide +kernel
theorem dX8_restore_44 : decode cX8_restore 44 = .ok (.getfield 44, 3) := by decide +kernel
theorem dX8_restore_47 : decode cX8_restore 47 = .ok (.bipush 53, 2) := by decide +kernel
theorem dX8_restore_49 : decode cX8_restore 49 = .ok (.iload_n 1, 1) := by decide +kernel
theorem dX8_restore_50 : decode cX8_restore 50 = .ok (.imul, 1) := by decide +kernel
theorem dX8_restore_51 : decode cX8_restore 51 = .ok (.iload_n 2, 1) := by decide +kernel
theorem dX8_restore_52 : decode cX8_restore 52 = .ok (.iadd, 1) := by decide +kernel
theorem dX8_restore_53 : decode cX8_restore 53 = .ok (.iaload, 1) := by decide +kernel
theorem dX8_restore_54 : decode cX8_restore 54 = .ok (.iastore, 1) := by decide +kernel
theorem dX8_restore_55 : decode cX8_restore 55 = .ok (.iinc 2 1, 3) := by decide +kernel
theorem dX8_restore_58 : decode cX8_restore 58 = .ok (.goto (-26), 3) := by decide +kernel
theorem dX8_restore_61 : decode cX8_restore 61 = .ok (.aload_n 0, 1) := by decide +kernel
theorem dX8_restore_62 : decode cX8_restore 62 = .ok (.iconst 0, 1) := by decide +kernel
theorem dX8_restore_63 : decode cX8_restore 63 = .ok (.putfield 152, 3) := by decide +kernel
theorem dX8_restore_66 : decode cX8_restore 66 = .ok (.iconst 1, 1) := by decide +kernel
theorem dX8_restore_67 : decode cX8_restore 67 = .ok (.ireturn, 1) := by decide +kernel
theorem dX8_isOf_0 : decode cX8_isOf 0 = .ok (.iload_n 1, 1) := by decide +kernel
theorem dX8_isOf_1 : decode cX8_isOf 1 = .ok (.ifCond .eq 28, 3) := by decide +kernel
theorem dX8_isOf_4 : decode cX8_isOf 4 = .ok (.iload_n 0, 1) := by decide +kernel
theorem dX8_isOf_5 : decode cX8_isOf 5 = .ok (.iload_n 1, 1) := by decide +kernel
theorem dX8_isOf_6 : decode cX8_isOf 6 = .ok (.if_icmp .eq 23, 3) := by decide +kernel
theorem dX8_isOf_9 : decode cX8_isOf 9 = .ok (.iload_n 1, 1) := by decide +kernel
theorem dX8_isOf_10 : decode cX8_isOf 10 = .ok (.iconst 1, 1) := by decide +kernel
theorem dX8_isOf_11 : decode cX8_isOf 11 = .ok (.if_icmp .ne 8, 3) := by decide +kernel
theorem dX8_isOf_14 : decode cX8_isOf 14 = .ok (.iload_n 0, 1) := by decide +kernel
theorem dX8_isOf_15 : decode cX8_isOf 15 = .ok (.iconst 4, 1) := by decide +kernel
theorem dX8_isOf_16 : decode cX8_isOf 16 = .ok (.if_icmp .lt 13, 3) := by decide +kernel
theorem dX8_isOf_19 : decode cX8_isOf 19 = .ok (.iload_n 1, 1) := by decide +kernel
theorem dX8_isOf_20 : decode cX8_isOf 20 = .ok (.iconst 4, 1) := by decide +kernel
theorem dX8_isOf_21 : decode cX8_isOf 21 = .ok (.if_icmp .ne 12, 3) := by decide +kernel
theorem dX8_isOf_24 : decode cX8_isOf 24 = .ok (.iload_n 0, 1) := by decide +kernel
theorem dX8_isOf_25 : decode cX8_isOf 25 = .ok (.iconst 5, 1) := by decide +kernel
theorem dX8_isOf_26 : decode cX8_isOf 26 = .ok (.if_icmp .ne 7, 3) := by decide +kernel
theorem dX8_isOf_29 : decode cX8_isOf 29 = .ok (.iconst 1, 1) := by decide +kernel
theorem dX8_isOf_30 : decode cX8_isOf 30 = .ok (.goto 4, 3) := by decide +kernel
theorem dX8_isOf_33 : decode cX8_isOf 33 = .ok (.iconst 0, 1) := by decide +kernel
theorem dX8_isOf_34 : decode cX8_isOf 34 = .ok (.ireturn, 1) := by decide +kernel
theorem dX8_kind_0 : decode cX8_kind 0 = .ok (.aload_n 0, 1) := by decide +kernel
theorem dX8_kind_1 : decode cX8_kind 1 = .ok (.iconst 0, 1) := by decide +kernel
theorem dX8_kind_2 : decode cX8_kind 2 = .ok (.putfield 50, 3) := by decide +kernel
theorem dX8_kind_5 : decode cX8_kind 5 = .ok (.aload_n 0, 1) := by decide +kernel
theorem dX8_kind_6 : decode cX8_kind 6 = .ok (.iload_n 1, 1) := by decide +kernel
theorem dX8_kind_7 : decode cX8_kind 7 = .ok (.invokevirtual 208, 3) := by decide +kernel
theorem dX8_kind_10 : decode cX8_kind 10 = .ok (.ifCond .eq 15, 3) := by decide +kernel
theorem dX8_kind_13 : decode cX8_kind 13 = .ok (.aload_n 0, 1) := by decide +kernel
theorem dX8_kind_14 : decode cX8_kind 14 = .ok (.getfield 19, 3) := by decide +kernel
theorem dX8_kind_17 : decode cX8_kind 17 = .ok (.iload_n 1, 1) := by decide +kernel
theorem dX8_kind_18 : decode cX8_kind 18 = .ok (.iconst 0, 1) := by decide +kernel
theorem dX8_kind_19 : decode cX8_kind 19 = .ok (.invokestatic 155, 3) := by decide +kernel
theorem dX8_kind_22 : decode cX8_kind 22 = .ok (.goto 5, 3) := by decide +kernel
theorem dX8_kind_25 : decode cX8_kind 25 = .ok (.ldc 70, 2) := by decide +kernel
theorem dX8_kind_27 : decode cX8_kind 27 = .ok (.ireturn, 1) := by decide +kernel
theorem dX8_as_0 : decode cX8_as 0 = .ok (.aload_n 0, 1) := by decide +kernel
theorem dX8_as_1 : decode cX8_as 1 = .ok (.iconst 0, 1) := by decide +kernel
theorem dX8_as_2 : decode cX8_as 2 = .ok (.putfield 50, 3) := by decide +kernel
theorem dX8_as_5 : decode cX8_as 5 = .ok (.aload_n 0, 1) := by decide +kernel
theorem dX8_as_6 : decode cX8_as 6 = .ok (.iload_n 1, 1) := by decide +kernel
theorem dX8_as_7 : decode cX8_as 7 = .ok (.invokevirtual 208, 3) := by decide +kernel
theorem dX8_as_10 : decode cX8_as 10 = .ok (.ifCond .eq 15, 3) := by decide +kernel
theorem dX8_as_13 : decode cX8_as 13 = .ok (.iload_n 2, 1) := by decide +kernel
theorem dX8_as_14 : decode cX8_as 14 = .ok (.i2l, 1) := by decide +kernel
theorem dX8_as_15 : decode cX8_as 15 = .ok (.lconst 0, 1) := by decide +kernel
theorem dX8_as_16 : decode cX8_as 16 = .ok (.ldc2_w 274, 3) := by decide +kernel
theorem dX8_as_19 : decode cX8_as 19 = .ok (.invokestatic 60, 3) := by decide +kernel
theorem dX8_as_22 : decode cX8_as 22 = .ok (.ifCond .ne 6, 3) := by decide +kernel
theorem dX8_as_25 : decode cX8_as 25 = .ok (.ldc 70, 2) := by decide +kernel
theorem dX8_as_27 : decode cX8_as 27 = .ok (.ireturn, 1) := by decide +kernel
theorem dX8_as_28 : decode cX8_as 28 = .ok (.aload_n 0, 1) := by decide +kernel
theorem dX8_as_29 : decode cX8_as 29 = .ok (.iconst 0, 1) := by decide +kernel
theorem dX8_as_30 : decode cX8_as 30 = .ok (.putfield 54, 3) := by decide +kernel
theorem dX8_as_33 : decode cX8_as 33 = .ok (.aload_n 0, 1) := by decide +kernel
theorem dX8_as_34 : decode cX8_as 34 = .ok (.getfield 19, 3) := by decide +kernel
theorem dX8_as_37 : decode cX8_as 37 = .ok (.iload_n 1, 1) := by decide +kernel
theorem dX8_as_38 : decode cX8_as 38 = .ok (.iconst 0, 1) := by decide +kernel
theorem dX8_as_39 : decode cX8_as 39 = .ok (.invokestatic 155, 3) := by decide +kernel
theorem dX8_as_42 : decode cX8_as 42 = .ok (.iload_n 2, 1) := by decide +kernel
theorem dX8_as_43 : decode cX8_as 43 = .ok (.invokestatic 276, 3) := by decide +kernel
theorem dX8_as_46 : decode cX8_as 46 = .ok (.ifCond .eq 7, 3) := by decide +kernel
theorem dX8_as_49 : decode cX8_as 49 = .ok (.iload_n 1, 1) := by decide +kernel
theorem dX8_as_50 : decode cX8_as 50 = .ok (.goto 8, 3) := by decide +kernel
theorem dX8_as_53 : decode cX8_as 53 = .ok (.aload_n 0, 1) := by decide +kernel
theorem dX8_as_54 : decode cX8_as 54 = .ok (.iconst 3, 1) := by decide +kernel
theorem dX8_as_55 : decode cX8_as 55 = .ok (.invokevirtual 71, 3) := by decide +kernel
theorem dX8_as_58 : decode cX8_as 58 = .ok (.ireturn, 1) := by decide +kernel
theorem dX8_began_0 : decode cX8_began 0 = .ok (.aload_n 0, 1) := by decide +kernel
theorem dX8_began_1 : decode cX8_began 1 = .ok (.getfield 279, 3) := by decide +kernel
theorem dX8_began_4 : decode cX8_began 4 = .ok (.bipush 16, 2) := by decide +kernel
theorem dX8_began_6 : decode cX8_began 6 = .ok (.if_icmp .ge 23, 3) := by decide +kernel
theorem dX8_began_9 : decode cX8_began 9 = .ok (.aload_n 0, 1) := by decide +kernel
theorem dX8_began_10 : decode cX8_began 10 = .ok (.getfield 47, 3) := by decide +kernel
theorem dX8_began_13 : decode cX8_began 13 = .ok (.aload_n 0, 1) := by decide +kernel
theorem dX8_began_14 : decode cX8_began 14 = .ok (.getfield 279, 3) := by decide +kernel
theorem dX8_began_17 : decode cX8_began 17 = .ok (.iload_n 1, 1) := by decide +kernel
theorem dX8_began_18 : decode cX8_began 18 = .ok (.iastore, 1) := by decide +kernel
theorem dX8_began_19 : decode cX8_began 19 = .ok (.aload_n 0, 1) := by decide +kernel
theorem dX8_began_20 : decode cX8_began 20 = .ok (.dup, 1) := by decide +kernel
theorem dX8_began_21 : decode cX8_began 21 = .ok (.getfield 279, 3) := by decide +kernel
theorem dX8_began_24 : decode cX8_began 24 = .ok (.iconst 1, 1) := by decide +kernel
theorem dX8_began_25 : decode cX8_began 25 = .ok (.iadd, 1) := by decide +kernel
theorem dX8_began_26 : decode cX8_began 26 = .ok (.putfield 279, 3) := by decide +kernel
theorem dX8_began_29 : decode cX8_began 29 = .ok (.return_, 1) := by decide +kernel
theorem dX8_plainSize_0 : decode cX8_plainSize 0 = .ok (.aload_n 0, 1) := by decide +kernel
theorem dX8_plainSize_1 : decode cX8_plainSize 1 = .ok (.bipush 10, 2) := by decide +kernel
theorem dX8_plainSize_3 : decode cX8_plainSize 3 = .ok (.invokevirtual 282, 3) := by decide +kernel
theorem dX8_plainSize_6 : decode cX8_plainSize 6 = .ok (.aload_n 0, 1) := by decide +kernel
theorem dX8_plainSize_7 : decode cX8_plainSize 7 = .ok (.getfield 19, 3) := by decide +kernel
theorem dX8_plainSize_10 : decode cX8_plainSize 10 = .ok (.iload_n 1, 1) := by decide +kernel
theorem dX8_plainSize_11 : decode cX8_plainSize 11 = .ok (.iconst 2, 1) := by decide +kernel
theorem dX8_plainSize_12 : decode cX8_plainSize 12 = .ok (.invokestatic 155, 3) := by decide +kernel
theorem dX8_plainSize_15 : decode cX8_plainSize 15 = .ok (.ireturn, 1) := by decide +kernel
theorem dX8_leafSize_0 : decode cX8_leafSize 0 = .ok (.aload_n 0, 1) := by decide +kernel
theorem dX8_leafSize_1 : decode cX8_leafSize 1 = .ok (.getfield 19, 3) := by decide +kernel
theorem dX8_leafSize_4 : decode cX8_leafSize 4 = .ok (.iload_n 1, 1) := by decide +kernel
theorem dX8_leafSize_5 : decode cX8_leafSize 5 = .ok (.iconst 0, 1) := by decide +kernel
theorem dX8_leafSize_6 : decode cX8_leafSize 6 = .ok (.invokestatic 155, 3) := by decide +kernel
theorem dX8_leafSize_9 : decode cX8_leafSize 9 = .ok (.iconst 5, 1) := by decide +kernel
theorem dX8_leafSize_10 : decode cX8_leafSize 10 = .ok (.if_icmp .ne 7, 3) := by decide +kernel
theorem dX8_leafSize_13 : decode cX8_leafSize 13 = .ok (.iconst 1, 1) := by decide +kernel
theorem dX8_leafSize_14 : decode cX8_leafSize 14 = .ok (.goto 4, 3) := by decide +kernel
theorem dX8_leafSize_17 : decode cX8_leafSize 17 = .ok (.iconst 0, 1) := by decide +kernel
theorem dX8_leafSize_18 : decode cX8_leafSize 18 = .ok (.istore_n 2, 1) := by decide +kernel
theorem dX8_leafSize_19 : decode cX8_leafSize 19 = .ok (.iload_n 2, 1) := by decide +kernel
theorem dX8_leafSize_20 : decode cX8_leafSize 20 = .ok (.ifCond .eq 9, 3) := by decide +kernel
theorem dX8_leafSize_23 : decode cX8_leafSize 23 = .ok (.aload_n 0, 1) := by decide +kernel
theorem dX8_leafSize_24 : decode cX8_leafSize 24 = .ok (.bipush 14, 2) := by decide +kernel
theorem dX8_leafSize_26 : decode cX8_leafSize 26 = .ok (.invokevirtual 282, 3) := by decide +kernel
theorem dX8_leafSize_29 : decode cX8_leafSize 29 = .ok (.aload_n 0, 1) := by decide +kernel
theorem dX8_leafSize_30 : decode cX8_leafSize 30 = .ok (.bipush 13, 2) := by decide +kernel
theorem dX8_leafSize_32 : decode cX8_leafSize 32 = .ok (.invokevirtual 282, 3) := by decide +kernel
theorem dX8_leafSize_35 : decode cX8_leafSize 35 = .ok (.aload_n 0, 1) := by decide +kernel
theorem dX8_leafSize_36 : decode cX8_leafSize 36 = .ok (.iload_n 1, 1) := by decide +kernel
theorem dX8_leafSize_37 : decode cX8_leafSize 37 = .ok (.invokevirtual 285, 3) := by decide +kernel
theorem dX8_leafSize_40 : decode cX8_leafSize 40 = .ok (.bipush 100, 2) := by decide +kernel
theorem dX8_leafSize_42 : decode cX8_leafSize 42 = .ok (.isub, 1) := by decide +kernel
theorem dX8_leafSize_43 : decode cX8_leafSize 43 = .ok (.istore_n 3, 1) := by decide +kernel
theorem dX8_leafSize_44 : decode cX8_leafSize 44 = .ok (.iload_n 2, 1) := by decide +kernel
theorem dX8_leafSize_45 : decode cX8_leafSize 45 = .ok (.ifCond .eq 9, 3) := by decide +kernel
theorem dX8_leafSize_48 : decode cX8_leafSize 48 = .ok (.iconst 2, 1) := by decide +kernel
theorem dX8_leafSize_49 : decode cX8_leafSize 49 = .ok (.iload_n 3, 1) := by decide +kernel
theorem dX8_leafSize_50 : decode cX8_leafSize 50 = .ok (.imul, 1) := by decide +kernel
theorem dX8_leafSize_51 : decode cX8_leafSize 51 = .ok (.goto 4, 3) := by decide +kernel
theorem dX8_leafSize_54 : decode cX8_leafSize 54 = .ok (.iload_n 3, 1) := by decide +kernel
theorem dX8_leafSize_55 : decode cX8_leafSize 55 = .ok (.ireturn, 1) := by decide +kernel
theorem dX8_markOf_0 : decode cX8_markOf 0 = .ok (.aload_n 0, 1) := by decide +kernel
theorem dX8_markOf_1 : decode cX8_markOf 1 = .ok (.getfield 19, 3) := by decide +kernel
theorem dX8_markOf_4 : decode cX8_markOf 4 = .ok (.iload_n 1, 1) := by decide +kernel
theorem dX8_markOf_5 : decode cX8_markOf 5 = .ok (.iconst 0, 1) := by decide +kernel
theorem dX8_markOf_6 : decode cX8_markOf 6 = .ok (.invokestatic 155, 3) := by decide +kernel
theorem dX8_markOf_9 : decode cX8_markOf 9 = .ok (.istore_n 2, 1) := by decide +kernel
theorem dX8_markOf_10 : decode cX8_markOf 10 = .ok (.iload_n 2, 1) := by decide +kernel
theorem dX8_markOf_11 : decode cX8_markOf 11 = .ok (.iconst 4, 1) := by decide +kernel
theorem dX8_markOf_12 : decode cX8_markOf 12 = .ok (.if_icmp .lt 23, 3) := by decide +kernel
theorem dX8_markOf_15 : decode cX8_markOf 15 = .ok (.aload_n 0, 1) := by decide +kernel
theorem dX8_markOf_16 : decode cX8_markOf 16 = .ok (.bipush 23, 2) := by decide +kernel
theorem dX8_markOf_18 : decode cX8_markOf 18 = .ok (.invokevirtual 282, 3) := by decide +kernel
theorem dX8_markOf_21 : decode cX8_markOf 21 = .ok (.aload_n 0, 1) := by decide +kernel
theorem dX8_markOf_22 : decode cX8_markOf 22 = .ok (.bipush 20, 2) := by decide +kernel
theorem dX8_markOf_24 : decode cX8_markOf 24 = .ok (.invokevirtual 282, 3) := by decide +kernel
theorem dX8_markOf_27 : decode cX8_markOf 27 = .ok (.iload_n 1, 1) := by decide +kernel
theorem dX8_markOf_28 : decode cX8_markOf 28 = .ok (.aload_n 0, 1) := by decide +kernel
theorem dX8_markOf_29 : decode cX8_markOf 29 = .ok (.iload_n 1, 1) := by decide +kernel
theorem dX8_markOf_30 : decode cX8_markOf 30 = .ok (.invokevirtual 288, 3) := by decide +kernel
theorem dX8_markOf_33 : decode cX8_markOf 33 = .ok (.isub, 1) := by decide +kernel
theorem dX8_markOf_34 : decode cX8_markOf 34 = .ok (.ireturn, 1) := by decide +kernel
theorem dX8_markOf_35 : decode cX8_markOf 35 = .ok (.iload_n 2, 1) := by decide +kernel
theorem dX8_markOf_36 : decode cX8_markOf 36 = .ok (.iconst 1, 1) := by decide +kernel
theorem dX8_markOf_37 : decode cX8_markOf 37 = .ok (.if_icmp .eq 19, 3) := by decide +kernel
theorem dX8_markOf_40 : decode cX8_markOf 40 = .ok (.aload_n 0, 1) := by decide +kernel
theorem dX8_markOf_41 : decode cX8_markOf 41 = .ok (.iload_n 2, 1) := by decide +kernel
theorem dX8_markOf_42 : decode cX8_markOf 42 = .ok (.iconst 3, 1) := by decide +kernel
theorem dX8_markOf_43 : decode cX8_markOf 43 = .ok (.if_icmp .ne 8, 3) := by decide +kernel
theorem dX8_markOf_46 : decode cX8_markOf 46 = .ok (.bipush 22, 2) := by decide +kernel
theorem dX8_markOf_48 : decode cX8_markOf 48 = .ok (.goto 5, 3) := by decide +kernel
theorem dX8_markOf_51 : decode cX8_markOf 51 = .ok (.bipush 24, 2) := by decide +kernel
theorem dX8_markOf_53 : decode cX8_markOf 53 = .ok (.invokevirtual 282, 3) := by decide +kernel
theorem dX8_markOf_56 : decode cX8_markOf 56 = .ok (.aload_n 0, 1) := by decide +kernel
theorem dX8_markOf_57 : decode cX8_markOf 57 = .ok (.bipush 21, 2) := by decide +kernel
theorem dX8_markOf_59 : decode cX8_markOf 59 = .ok (.invokevirtual 282, 3) := by decide +kernel
theorem dX8_markOf_62 : decode cX8_markOf 62 = .ok (.aload_n 0, 1) := by decide +kernel
theorem dX8_markOf_63 : decode cX8_markOf 63 = .ok (.bipush 20, 2) := by decide +kernel
theorem dX8_markOf_65 : decode cX8_markOf 65 = .ok (.invokevirtual 282, 3) := by decide +kernel
theorem dX8_markOf_68 : decode cX8_markOf 68 = .ok (.iload_n 1, 1) := by decide +kernel
theorem dX8_markOf_69 : decode cX8_markOf 69 = .ok (.aload_n 0, 1) := by decide +kernel
theorem dX8_markOf_70 : decode cX8_markOf 70 = .ok (.getfield 19, 3) := by decide +kernel
theorem dX8_markOf_73 : decode cX8_markOf 73 = .ok (.iload_n 1, 1) := by decide +kernel
theorem dX8_markOf_74 : decode cX8_markOf 74 = .ok (.iconst 4, 1) := by decide +kernel
theorem dX8_markOf_75 : decode cX8_markOf 75 = .ok (.invokestatic 155, 3) := by decide +kernel
theorem dX8_markOf_78 : decode cX8_markOf 78 = .ok (.iadd, 1) := by decide +kernel
theorem dX8_markOf_79 : decode cX8_markOf 79 = .ok (.istore_n 3, 1) := by decide +kernel
theorem dX8_markOf_80 : decode cX8_markOf 80 = .ok (.iload_n 2, 1) := by decide +kernel
theorem dX8_markOf_81 : decode cX8_markOf 81 = .ok (.iconst 1, 1) := by decide +kernel
theorem dX8_markOf_82 : decode cX8_markOf 82 = .ok (.if_icmp .ne 7, 3) := by decide +kernel
theorem dX8_markOf_85 : decode cX8_markOf 85 = .ok (.iload_n 3, 1) := by decide +kernel
theorem dX8_markOf_86 : decode cX8_markOf 86 = .ok (.goto 19, 3) := by decide +kernel
theorem dX8_markOf_89 : decode cX8_markOf 89 = .ok (.iload_n 2, 1) := by decide +kernel
theorem dX8_markOf_90 : decode cX8_markOf 90 = .ok (.iconst 3, 1) := by decide +kernel
theorem dX8_markOf_91 : decode cX8_markOf 91 = .ok (.if_icmp .ne 11, 3) := by decide +kernel
theorem dX8_markOf_94 : decode cX8_markOf 94 = .ok (.iload_n 3, 1) := by decide +kernel
theorem dX8_markOf_95 : decode cX8_markOf 95 = .ok (.sipush 1000, 3) := by decide +kernel
theorem dX8_markOf_98 : decode cX8_markOf 98 = .ok (.isub, 1) := by decide +kernel
theorem dX8_markOf_99 : decode cX8_markOf 99 = .ok (.goto 6, 3) := by decide +kernel
theorem dX8_markOf_102 : decode cX8_markOf 102 = .ok (.iconst 2, 1) := by decide +kernel
theorem dX8_markOf_103 : decode cX8_markOf 103 = .ok (.iload_n 3, 1) := by decide +kernel
theorem dX8_markOf_104 : decode cX8_markOf 104 = .ok (.imul, 1) := by decide +kernel
theorem dX8_markOf_105 : decode cX8_markOf 105 = .ok (.ireturn, 1) := by decide +kernel
theorem dX8_sizeOf_0 : decode cX8_sizeOf 0 = .ok (.aload_n 0, 1) := by decide +kernel
theorem dX8_sizeOf_1 : decode cX8_sizeOf 1 = .ok (.getfield 19, 3) := by decide +kernel
theorem dX8_sizeOf_4 : decode cX8_sizeOf 4 = .ok (.iload_n 1, 1) := by decide +kernel
theorem dX8_sizeOf_5 : decode cX8_sizeOf 5 = .ok (.iconst 0, 1) := by decide +kernel
theorem dX8_sizeOf_6 : decode cX8_sizeOf 6 = .ok (.invokestatic 155, 3) := by decide +kernel
theorem dX8_sizeOf_9 : decode cX8_sizeOf 9 = .ok (.istore_n 2, 1) := by decide +kernel
theorem dX8_sizeOf_10 : decode cX8_sizeOf 10 = .ok (.iload_n 2, 1) := by decide +kernel
theorem dX8_sizeOf_11 : decode cX8_sizeOf 11 = .ok (.iconst 4, 1) := by decide +kernel
theorem dX8_sizeOf_12 : decode cX8_sizeOf 12 = .ok (.if_icmp .lt 9, 3) := by decide +kernel
theorem dX8_sizeOf_15 : decode cX8_sizeOf 15 = .ok (.aload_n 0, 1) := by decide +kernel
theorem dX8_sizeOf_16 : decode cX8_sizeOf 16 = .ok (.iload_n 1, 1) := by decide +kernel
theorem dX8_sizeOf_17 : decode cX8_sizeOf 17 = .ok (.invokevirtual 288, 3) := by decide +kernel
theorem dX8_sizeOf_20 : decode cX8_sizeOf 20 = .ok (.ireturn, 1) := by decide +kernel
theorem dX8_sizeOf_21 : decode cX8_sizeOf 21 = .ok (.iload_n 2, 1) := by decide +kernel
theorem dX8_sizeOf_22 : decode cX8_sizeOf 22 = .ok (.iconst 2, 1) := by decide +kernel
theorem dX8_sizeOf_23 : decode cX8_sizeOf 23 = .ok (.if_icmp .ne 9, 3) := by decide +kernel
theorem dX8_sizeOf_26 : decode cX8_sizeOf 26 = .ok (.aload_n 0, 1) := by decide +kernel
theorem dX8_sizeOf_27 : decode cX8_sizeOf 27 = .ok (.bipush 12, 2) := by decide +kernel
theorem dX8_sizeOf_29 : decode cX8_sizeOf 29 = .ok (.invokevirtual 282, 3) := by decide +kernel
theorem dX8_sizeOf_32 : decode cX8_sizeOf 32 = .ok (.aload_n 0, 1) := by decide +kernel
theorem dX8_sizeOf_33 : decode cX8_sizeOf 33 = .ok (.bipush 11, 2) := by decide +kernel
theorem dX8_sizeOf_35 : decode cX8_sizeOf 35 = .ok (.invokevirtual 282, 3) := by decide +kernel
theorem dX8_sizeOf_38 : decode cX8_sizeOf 38 = .ok (.aload_n 0, 1) := by decide +kernel
theorem dX8_sizeOf_39 : decode cX8_sizeOf 39 = .ok (.iload_n 1, 1) := by decide +kernel
theorem dX8_sizeOf_40 : decode cX8_sizeOf 40 = .ok (.invokevirtual 285, 3) := by decide +kernel
theorem dX8_sizeOf_43 : decode cX8_sizeOf 43 = .ok (.istore_n 3, 1) := by decide +kernel
theorem dX8_sizeOf_44 : decode cX8_sizeOf 44 = .ok (.iload_n 3, 1) := by decide +kernel
theorem dX8_sizeOf_45 : decode cX8_sizeOf 45 = .ok (.aload_n 0, 1) := by decide +kernel
theorem dX8_sizeOf_46 : decode cX8_sizeOf 46 = .ok (.iload_n 1, 1) := by decide +kernel
theorem dX8_sizeOf_47 : decode cX8_sizeOf 47 = .ok (.invokevirtual 291, 3) := by decide +kernel
theorem dX8_sizeOf_50 : decode cX8_sizeOf 50 = .ok (.iadd, 1) := by decide +kernel
theorem dX8_sizeOf_51 : decode cX8_sizeOf 51 = .ok (.istore_n 3, 1) := by decide +kernel
theorem dX8_sizeOf_52 : decode cX8_sizeOf 52 = .ok (.iload_n 2, 1) := by decide +kernel
theorem dX8_sizeOf_53 : decode cX8_sizeOf 53 = .ok (.iconst 2, 1) := by decide +kernel
theorem dX8_sizeOf_54 : decode cX8_sizeOf 54 = .ok (.if_icmp .ne 8, 3) := by decide +kernel
theorem dX8_sizeOf_57 : decode cX8_sizeOf 57 = .ok (.iload_n 3, 1) := by decide +kernel
theorem dX8_sizeOf_58 : decode cX8_sizeOf 58 = .ok (.ineg, 1) := by decide +kernel
theorem dX8_sizeOf_59 : decode cX8_sizeOf 59 = .ok (.goto 4, 3) := by decide +kernel
theorem dX8_sizeOf_62 : decode cX8_sizeOf 62 = .ok (.iload_n 3, 1) := by decide +kernel
theorem dX8_sizeOf_63 : decode cX8_sizeOf 63 = .ok (.ireturn, 1) := by decide +kernel
theorem dX8_ask_0 : decode cX8_ask 0 = .ok (.aload_n 0, 1) := by decide +kernel
theorem dX8_ask_1 : decode cX8_ask 1 = .ok (.iconst 0, 1) := by decide +kernel
theorem dX8_ask_2 : decode cX8_ask 2 = .ok (.putfield 50, 3) := by decide +kernel
theorem dX8_ask_5 : decode cX8_ask 5 = .ok (.aload_n 0, 1) := by decide +kernel
theorem dX8_ask_6 : decode cX8_ask 6 = .ok (.iload_n 1, 1) := by decide +kernel
theorem dX8_ask_7 : decode cX8_ask 7 = .ok (.invokevirtual 208, 3) := by decide +kernel
theorem dX8_ask_10 : decode cX8_ask 10 = .ok (.ifCond .eq 13, 3) := by decide +kernel
theorem dX8_ask_13 : decode cX8_ask 13 = .ok (.iload_n 2, 1) := by decide +kernel
theorem dX8_ask_14 : decode cX8_ask 14 = .ok (.i2l, 1) := by decide +kernel
theorem dX8_ask_15 : decode cX8_ask 15 = .ok (.lconst 0, 1) := by decide +kernel
theorem dX8_ask_16 : decode cX8_ask 16 = .ok (.lconst 1, 1) := by decide +kernel
theorem dX8_ask_17 : decode cX8_ask 17 = .ok (.invokestatic 60, 3) := by decide +kernel
theorem dX8_ask_20 : decode cX8_ask 20 = .ok (.ifCond .ne 6, 3) := by decide +kernel
theorem dX8_ask_23 : decode cX8_ask 23 = .ok (.ldc 70, 2) := by decide +kernel
theorem dX8_ask_25 : decode cX8_ask 25 = .ok (.ireturn, 1) := by decide +kernel
theorem dX8_ask_26 : decode cX8_ask 26 = .ok (.aload_n 0, 1) := by decide +kernel
theorem dX8_ask_27 : decode cX8_ask 27 = .ok (.iconst 0, 1) := by decide +kernel
theorem dX8_ask_28 : decode cX8_ask 28 = .ok (.putfield 279, 3) := by decide +kernel
theorem dX8_ask_31 : decode cX8_ask 31 = .ok (.iload_n 2, 1) := by decide +kernel
theorem dX8_ask_32 : decode cX8_ask 32 = .ok (.ifCond .ne 11, 3) := by decide +kernel
theorem dX8_ask_35 : decode cX8_ask 35 = .ok (.aload_n 0, 1) := by decide +kernel
theorem dX8_ask_36 : decode cX8_ask 36 = .ok (.iload_n 1, 1) := by decide +kernel
theorem dX8_ask_37 : decode cX8_ask 37 = .ok (.invokevirtual 294, 3) := by decide +kernel
theorem dX8_ask_40 : decode cX8_ask 40 = .ok (.goto 8, 3) := by decide +kernel
theorem dX8_ask_43 : decode cX8_ask 43 = .ok (.aload_n 0, 1) := by decide +kernel
theorem dX8_ask_44 : decode cX8_ask 44 = .ok (.iload_n 1, 1) := by decide +kernel
theorem dX8_ask_45 : decode cX8_ask 45 = .ok (.invokevirtual 291, 3) := by decide +kernel
theorem dX8_ask_48 : decode cX8_ask 48 = .ok (.ireturn, 1) := by decide +kernel
theorem dX8_trace_0 : decode cX8_trace 0 = .ok (.aload_n 0, 1) := by decide +kernel
theorem dX8_trace_1 : decode cX8_trace 1 = .ok (.iconst 0, 1) := by decide +kernel
theorem dX8_trace_2 : decode cX8_trace 2 = .ok (.putfield 50, 3) := by decide +kernel
theorem dX8_trace_5 : decode cX8_trace 5 = .ok (.iload_n 1, 1) := by decide +kernel
theorem dX8_trace_6 : decode cX8_trace 6 = .ok (.i2l, 1) := by decide +kernel
theorem dX8_trace_7 : decode cX8_trace 7 = .ok (.lconst 0, 1) := by decide +kernel
theorem dX8_trace_8 : decode cX8_trace 8 = .ok (.aload_n 0, 1) := by decide +kernel
theorem dX8_trace_9 : decode cX8_trace 9 = .ok (.getfield 279, 3) := by decide +kernel
theorem dX8_trace_12 : decode cX8_trace 12 = .ok (.iconst 1, 1) := by decide +kernel
theorem dX8_trace_13 : decode cX8_trace 13 = .ok (.isub, 1) := by decide +kernel
theorem dX8_trace_14 : decode cX8_trace 14 = .ok (.i2l, 1) := by decide +kernel
theorem dX8_trace_15 : decode cX8_trace 15 = .ok (.invokestatic 60, 3) := by decide +kernel
theorem dX8_trace_18 : decode cX8_trace 18 = .ok (.ifCond .eq 12, 3) := by decide +kernel
theorem dX8_trace_21 : decode cX8_trace 21 = .ok (.aload_n 0, 1) := by decide +kernel
theorem dX8_trace_22 : decode cX8_trace 22 = .ok (.getfield 47, 3) := by decide +kernel
theorem dX8_trace_25 : decode cX8_trace 25 = .ok (.iload_n 1, 1) := by decide +kernel
theorem dX8_trace_26 : decode cX8_trace 26 = .ok (.iaload, 1) := by decide +kernel
theorem dX8_trace_27 : decode cX8_trace 27 = .ok (.goto 5, 3) := by decide +kernel
theorem dX8_trace_30 : decode cX8_trace 30 = .ok (.ldc 93, 2) := by decide +kernel
theorem dX8_trace_32 : decode cX8_trace 32 = .ok (.ireturn, 1) := by decide +kernel
theorem dX8_count_0 : decode cX8_count 0 = .ok (.aload_n 0, 1) := by decide +kernel
theorem dX8_count_1 : decode cX8_count 1 = .ok (.iconst 0, 1) := by decide +kernel
theorem dX8_count_2 : decode cX8_count 2 = .ok (.putfield 50, 3) := by decide +kernel
theorem dX8_count_5 : decode cX8_count 5 = .ok (.iconst 0, 1) := by decide +kernel
theorem dX8_count_6 : decode cX8_count 6 = .ok (.istore_n 2, 1) := by decide +kernel
theorem dX8_count_7 : decode cX8_count 7 = .ok (.iload_n 1, 1) := by decide +kernel
theorem dX8_count_8 : decode cX8_count 8 = .ok (.tableswitch 136 0 7 #[48, 81, 88, 95, 102, 114, 126, 131], 48) := by decide +kernel
theorem dX8_count_56 : decode cX8_count 56 = .ok (.iconst 0, 1) := by decide +kernel
theorem dX8_count_57 : decode cX8_count 57 = .ok (.istore_n 3, 1) := by decide +kernel
theorem dX8_count_58 : decode cX8_count 58 = .ok (.iload_n 3, 1) := by decide +kernel
theorem dX8_count_59 : decode cX8_count 59 = .ok (.bipush 8, 2) := by decide +kernel
theorem dX8_count_61 : decode cX8_count 61 = .ok (.if_icmp .ge 26, 3) := by decide +kernel
theorem dX8_count_64 : decode cX8_count 64 = .ok (.iload_n 2, 1) := by decide +kernel
theorem dX8_count_65 : decode cX8_count 65 = .ok (.aload_n 0, 1) := by decide +kernel
theorem dX8_count_66 : decode cX8_count 66 = .ok (.getfield 7, 3) := by decide +kernel
theorem dX8_count_69 : decode cX8_count 69 = .ok (.iload_n 3, 1) := by decide +kernel
theorem dX8_count_70 : decode cX8_count 70 = .ok (.iaload, 1) := by decide +kernel
theorem dX8_count_71 : decode cX8_count 71 = .ok (.ifCond .lt 7, 3) := by decide +kernel
theorem dX8_count_74 : decode cX8_count 74 = .ok (.iconst 1, 1) := by decide +kernel
theorem dX8_count_75 : decode cX8_count 75 = .ok (.goto 4, 3) := by decide +kernel
theorem dX8_count_78 : decode cX8_count 78 = .ok (.iconst 0, 1) := by decide +kernel
theorem dX8_count_79 : decode cX8_count 79 = .ok (.iadd, 1) := by decide +kernel
theorem dX8_count_80 : decode cX8_count 80 = .ok (.istore_n 2, 1) := by decide +kernel
theorem dX8_count_81 : decode cX8_count 81 = .ok (.iinc 3 1, 3) := by decide +kernel
theorem dX8_count_84 : decode cX8_count 84 = .ok (.goto (-26), 3) := by decide +kernel
theorem dX8_count_87 : decode cX8_count 87 = .ok (.iload_n 2, 1) := by decide +kernel
theorem dX8_count_88 : decode cX8_count 88 = .ok (.ireturn, 1) := by decide +kernel
theorem dX8_count_89 : decode cX8_count 89 = .ok (.aload_n 0, 1) := by decide +kernel
theorem dX8_count_90 : decode cX8_count 90 = .ok (.getfield 19, 3) := by decide +kernel
theorem dX8_count_93 : decode cX8_count 93 = .ok (.iconst 0, 1) := by decide +kernel
theorem dX8_count_94 : decode cX8_count 94 = .ok (.iaload, 1) := by decide +kernel
theorem dX8_count_95 : decode cX8_count 95 = .ok (.ireturn, 1) := by decide +kernel
theorem dX8_count_96 : decode cX8_count 96 = .ok (.aload_n 0, 1) := by decide +kernel
theorem dX8_count_97 : decode cX8_count 97 = .ok (.getfield 19, 3) := by decide +kernel
theorem dX8_count_100 : decode cX8_count 100 = .ok (.iconst 1, 1) := by decide +kernel
theorem dX8_count_101 : decode cX8_count 101 = .ok (.iaload, 1) := by decide +kernel
theorem dX8_count_102 : decode cX8_count 102 = .ok (.ireturn, 1) := by decide +kernel
theorem dX8_count_103 : decode cX8_count 103 = .ok (.aload_n 0, 1) := by decide +kernel
theorem dX8_count_104 : decode cX8_count 104 = .ok (.getfield 19, 3) := by decide +kernel
theorem dX8_count_107 : decode cX8_count 107 = .ok (.iconst 4, 1) := by decide +kernel
theorem dX8_count_108 : decode cX8_count 108 = .ok (.iaload, 1) := by decide +kernel
theorem dX8_count_109 : decode cX8_count 109 = .ok (.ireturn, 1) := by decide +kernel
theorem dX8_count_110 : decode cX8_count 110 = .ok (.aload_n 0, 1) := by decide +kernel
theorem dX8_count_111 : decode cX8_count 111 = .ok (.getfield 19, 3) := by decide +kernel
theorem dX8_count_114 : decode cX8_count 114 = .ok (.iconst 1, 1) := by decide +kernel
theorem dX8_count_115 : decode cX8_count 115 = .ok (.invokestatic 217, 3) := by decide +kernel
theorem dX8_count_118 : decode cX8_count 118 = .ok (.invokestatic 244, 3) := by decide +kernel
theorem dX8_count_121 : decode cX8_count 121 = .ok (.ireturn, 1) := by decide +kernel
theorem dX8_count_122 : decode cX8_count 122 = .ok (.aload_n 0, 1) := by decide +kernel
theorem dX8_count_123 : decode cX8_count 123 = .ok (.getfield 19, 3) := by decide +kernel
theorem dX8_count_126 : decode cX8_count 126 = .ok (.iconst 2, 1) := by decide +kernel
theorem dX8_count_127 : decode cX8_count 127 = .ok (.invokestatic 217, 3) := by decide +kernel
theorem dX8_count_130 : decode cX8_count 130 = .ok (.invokestatic 244, 3) := by decide +kernel
theorem dX8_count_133 : decode cX8_count 133 = .ok (.ireturn, 1) := by decide +kernel
theorem dX8_count_134 : decode cX8_count 134 = .ok (.aload_n 0, 1) := by decide +kernel
theorem dX8_count_135 : decode cX8_count 135 = .ok (.getfield 152, 3) := by decide +kernel
theorem dX8_count_138 : decode cX8_count 138 = .ok (.ireturn, 1) := by decide +kernel
theorem dX8_count_139 : decode cX8_count 139 = .ok (.aload_n 0, 1) := by decide +kernel
theorem dX8_count_140 : decode cX8_count 140 = .ok (.getfield 77, 3) := by decide +kernel
theorem dX8_count_143 : decode cX8_count 143 = .ok (.ireturn, 1) := by decide +kernel
theorem dX8_count_144 : decode cX8_count 144 = .ok (.ldc 70, 2) := by decide +kernel
theorem dX8_count_146 : decode cX8_count 146 = .ok (.ireturn, 1) := by decide +kernel
theorem dX8_status_0 : decode cX8_status 0 = .ok (.aload_n 0, 1) := by decide +kernel
theorem dX8_status_1 : decode cX8_status 1 = .ok (.iconst 0, 1) := by decide +kernel
theorem dX8_status_2 : decode cX8_status 2 = .ok (.putfield 50, 3) := by decide +kernel
theorem dX8_status_5 : decode cX8_status 5 = .ok (.aload_n 0, 1) := by decide +kernel
theorem dX8_status_6 : decode cX8_status 6 = .ok (.getfield 54, 3) := by decide +kernel
theorem dX8_status_9 : decode cX8_status 9 = .ok (.ireturn, 1) := by decide +kernel
end
section
theorem dL_law_0 : decode cL_law 0 = .ok (.new 7, 3) := by decide +kernel
theorem dL_law_3 : decode cL_law 3 = .ok (.dup, 1) := by decide +kernel
theorem dL_law_4 : decode cL_law 4 = .ok (.invokespecial 9, 3) := by decide +kernel
theorem dL_law_7 : decode cL_law 7 = .ok (.astore_n 1, 1) := by decide +kernel
theorem dL_law_8 : decode cL_law 8 = .ok (.new 10, 3) := by decide +kernel
theorem dL_law_11 : decode cL_law 11 = .ok (.dup, 1) := by decide +kernel
theorem dL_law_12 : decode cL_law 12 = .ok (.invokespecial 12, 3) := by decide +kernel
theorem dL_law_15 : decode cL_law 15 = .ok (.astore_n 2, 1) := by decide +kernel
theorem dL_law_16 : decode cL_law 16 = .ok (.iconst 0, 1) := by decide +kernel
theorem dL_law_17 : decode cL_law 17 = .ok (.istore_n 3, 1) := by decide +kernel
theorem dL_law_18 : decode cL_law 18 = .ok (.iload_n 3, 1) := by decide +kernel
theorem dL_law_19 : decode cL_law 19 = .ok (.aload_n 0, 1) := by decide +kernel
theorem dL_law_20 : decode cL_law 20 = .ok (.arraylength, 1) := by decide +kernel
theorem dL_law_21 : decode cL_law 21 = .ok (.bipush 6, 2) := by decide +kernel
theorem dL_law_23 : decode cL_law 23 = .ok (.isub, 1) := by decide +kernel
theorem dL_law_24 : decode cL_law 24 = .ok (.if_icmp .gt 1417, 3) := by decide +kernel
theorem dL_law_27 : decode cL_law 27 = .ok (.aload_n 0, 1) := by decide +kernel
theorem dL_law_28 : decode cL_law 28 = .ok (.iload_n 3, 1) := by decide +kernel
theorem dL_law_29 : decode cL_law 29 = .ok (.iaload, 1) := by decide +kernel
theorem dL_law_30 : decode cL_law 30 = .ok (.bipush 63, 2) := by decide +kernel
theorem dL_law_32 : decode cL_law 32 = .ok (.iand, 1) := by decide +kernel
theorem dL_law_33 : decode cL_law 33 = .ok (.tableswitch 1402 0 37 #[167, 210, 253, 316, 339, 362, 375, 388, 401, 424, 457, 490, 523, 556, 589, 612, 635, 678, 711, 734, 757, 800, 843, 876, 899, 922, 985, 1048, 1111, 1165, 1208, 1231, 1254, 1277, 1310, 1343, 1366, 1389], 167) := by decide +kernel
theorem dL_law_200 : decode cL_law 200 = .ok (.aload_n 1, 1) := by decide +kernel
theorem dL_law_201 : decode cL_law 201 = .ok (.aload_n 0, 1) := by decide +kernel
theorem dL_law_202 : decode cL_law 202 = .ok (.iload_n 3, 1) := by decide +kernel
theorem dL_law_203 : decode cL_law 203 = .ok (.iconst 1, 1) := by decide +kernel
theorem dL_law_204 : decode cL_law 204 = .ok (.iadd, 1) := by decide +kernel
theorem dL_law_205 : decode cL_law 205 = .ok (.iaload, 1) := by decide +kernel
theorem dL_law_206 : decode cL_law 206 = .ok (.aload_n 0, 1) := by decide +kernel
theorem dL_law_207 : decode cL_law 207 = .ok (.iload_n 3, 1) := by decide +kernel
theorem dL_law_208 : decode cL_law 208 = .ok (.iconst 2, 1) := by decide +kernel
theorem dL_law_209 : decode cL_law 209 = .ok (.iadd, 1) := by decide +kernel
theorem dL_law_210 : decode cL_law 210 = .ok (.iaload, 1) := by decide +kernel
theorem dL_law_211 : decode cL_law 211 = .ok (.aload_n 0, 1) := by decide +kernel
theorem dL_law_212 : decode cL_law 212 = .ok (.iload_n 3, 1) := by decide +kernel
theorem dL_law_213 : decode cL_law 213 = .ok (.iconst 3, 1) := by decide +kernel
theorem dL_law_214 : decode cL_law 214 = .ok (.iadd, 1) := by decide +kernel
theorem dL_law_215 : decode cL_law 215 = .ok (.iaload, 1) := by decide +kernel
theorem dL_law_216 : decode cL_law 216 = .ok (.invokevirtual 13, 3) := by decide +kernel
theorem dL_law_219 : decode cL_law 219 = .ok (.aload_n 2, 1) := by decide +kernel
theorem dL_law_220 : decode cL_law 220 = .ok (.aload_n 0, 1) := by decide +kernel
theorem dL_law_221 : decode cL_law 221 = .ok (.iload_n 3, 1) := by decide +kernel
theorem dL_law_222 : decode cL_law 222 = .ok (.iconst 1, 1) := by decide +kernel
theorem dL_law_223 : decode cL_law 223 = .ok (.iadd, 1) := by decide +kernel
theorem dL_law_224 : decode cL_law 224 = .ok (.iaload, 1) := by decide +kernel
theorem dL_law_225 : decode cL_law 225 = .ok (.aload_n 0, 1) := by decide +kernel
theorem dL_law_226 : decode cL_law 226 = .ok (.iload_n 3, 1) := by decide +kernel
theorem dL_law_227 : decode cL_law 227 = .ok (.iconst 2, 1) := by decide +kernel
theorem dL_law_228 : decode cL_law 228 = .ok (.iadd, 1) := by decide +kernel
theorem dL_law_229 : decode cL_law 229 = .ok (.iaload, 1) := by decide +kernel
theorem dL_law_230 : decode cL_law 230 = .ok (.aload_n 0, 1) := by decide +kernel
theorem dL_law_231 : decode cL_law 231 = .ok (.iload_n 3, 1) := by decide +kernel
theorem dL_law_232 : decode cL_law 232 = .ok (.iconst 3, 1) := by decide +kernel
theorem dL_law_233 : decode cL_law 233 = .ok (.iadd, 1) := by decide +kernel
theorem dL_law_234 : decode cL_law 234 = .ok (.iaload, 1) := by decide +kernel
theorem dL_law_235 : decode cL_law 235 = .ok (.invokevirtual 17, 3) := by decide +kernel
theorem dL_law_238 : decode cL_law 238 = .ok (.if_icmp .eq 1197, 3) := by decide +kernel
theorem dL_law_241 : decode cL_law 241 = .ok (.iconst 0, 1) := by decide +kernel
theorem dL_law_242 : decode cL_law 242 = .ok (.ireturn, 1) := by decide +kernel
theorem dL_law_243 : decode cL_law 243 = .ok (.aload_n 1, 1) := by decide +kernel
theorem dL_law_244 : decode cL_law 244 = .ok (.aload_n 0, 1) := by decide +kernel
theorem dL_law_245 : decode cL_law 245 = .ok (.iload_n 3, 1) := by decide +kernel
theorem dL_law_246 : decode cL_law 246 = .ok (.iconst 1, 1) := by decide +kernel
theorem dL_law_247 : decode cL_law 247 = .ok (.iadd, 1) := by decide +kernel
theorem dL_law_248 : decode cL_law 248 = .ok (.iaload, 1) := by decide +kernel
theorem dL_law_249 : decode cL_law 249 = .ok (.aload_n 0, 1) := by decide +kernel
theorem dL_law_250 : decode cL_law 250 = .ok (.iload_n 3, 1) := by decide +kernel
theorem dL_law_251 : decode cL_law 251 = .ok (.iconst 2, 1) := by decide +kernel
theorem dL_law_252 : decode cL_law 252 = .ok (.iadd, 1) := by decide +kernel
theorem dL_law_253 : decode cL_law 253 = .ok (.iaload, 1) := by decide +kernel
theorem dL_law_254 : decode cL_law 254 = .ok (.aload_n 0, 1) := by decide +kernel
theorem dL_law_255 : decode cL_law 255 = .ok (.iload_n 3, 1) := by decide +kernel
theorem dL_law_256 : decode cL_law 256 = .ok (.iconst 3, 1) := by decide +kernel
theorem dL_law_257 : decode cL_law 257 = .ok (.iadd, 1) := by decide +kernel
theorem dL_law_258 : decode cL_law 258 = .ok (.iaload, 1) := by decide +kernel
theorem dL_law_259 : decode cL_law 259 = .ok (.invokevirtual 18, 3) := by decide +kernel
theorem dL_law_262 : decode cL_law 262 = .ok (.aload_n 2, 1) := by decide +kernel
theorem dL_law_263 : decode cL_law 263 = .ok (.aload_n 0, 1) := by decide +kernel
theorem dL_law_264 : decode cL_law 264 = .ok (.iload_n 3, 1) := by decide +kernel
theorem dL_law_265 : decode cL_law 265 = .ok (.iconst 1, 1) := by decide +kernel
theorem dL_law_266 : decode cL_law 266 = .ok (.iadd, 1) := by decide +kernel
theorem dL_law_267 : decode cL_law 267 = .ok (.iaload, 1) := by decide +kernel
theorem dL_law_268 : decode cL_law 268 = .ok (.aload_n 0, 1) := by decide +kernel
theorem dL_law_269 : decode cL_law 269 = .ok (.iload_n 3, 1) := by decide +kernel
theorem dL_law_270 : decode cL_law 270 = .ok (.iconst 2, 1) := by decide +kernel
theorem dL_law_271 : decode cL_law 271 = .ok (.iadd, 1) := by decide +kernel
theorem dL_law_272 : decode cL_law 272 = .ok (.iaload, 1) := by decide +kernel
theorem dL_law_273 : decode cL_law 273 = .ok (.aload_n 0, 1) := by decide +kernel
theorem dL_law_274 : decode cL_law 274 = .ok (.iload_n 3, 1) := by decide +kernel
theorem dL_law_275 : decode cL_law 275 = .ok (.iconst 3, 1) := by decide +kernel
theorem dL_law_276 : decode cL_law 276 = .ok (.iadd, 1) := by decide +kernel
theorem dL_law_277 : decode cL_law 277 = .ok (.iaload, 1) := by decide +kernel
theorem dL_law_278 : decode cL_law 278 = .ok (.invokevirtual 21, 3) := by decide +kernel
theorem dL_law_281 : decode cL_law 281 = .ok (.if_icmp .eq 1154, 3) := by decide +kernel
theorem dL_law_284 : decode cL_law 284 = .ok (.iconst 0, 1) := by decide +kernel
theorem dL_law_285 : decode cL_law 285 = .ok (.ireturn, 1) := by decide +kernel
theorem dL_law_286 : decode cL_law 286 = .ok (.aload_n 1, 1) := by decide +kernel
theorem dL_law_287 : decode cL_law 287 = .ok (.aload_n 0, 1) := by decide +kernel
theorem dL_law_288 : decode cL_law 288 = .ok (.iload_n 3, 1) := by decide +kernel
theorem dL_law_289 : decode cL_law 289 = .ok (.iconst 1, 1) := by decide +kernel
theorem dL_law_290 : decode cL_law 290 = .ok (.iadd, 1) := by decide +kernel
theorem dL_law_291 : decode cL_law 291 = .ok (.iaload, 1) := by decide +kernel
theorem dL_law_292 : decode cL_law 292 = .ok (.aload_n 0, 1) := by decide +kernel
theorem dL_law_293 : decode cL_law 293 = .ok (.iload_n 3, 1) := by decide +kernel
theorem dL_law_294 : decode cL_law 294 = .ok (.iconst 2, 1) := by decide +kernel
theorem dL_law_295 : decode cL_law 295 = .ok (.iadd, 1) := by decide +kernel
theorem dL_law_296 : decode cL_law 296 = .ok (.iaload, 1) := by decide +kernel
theorem dL_law_297 : decode cL_law 297 = .ok (.aload_n 0, 1) := by decide +kernel
theorem dL_law_298 : decode cL_law 298 = .ok (.iload_n 3, 1) := by decide +kernel
theorem dL_law_299 : decode cL_law 299 = .ok (.iconst 3, 1) := by decide +kernel
theorem dL_law_300 : decode cL_law 300 = .ok (.iadd, 1) := by decide +kernel
theorem dL_law_301 : decode cL_law 301 = .ok (.iaload, 1) := by decide +kernel
theorem dL_law_302 : decode cL_law 302 = .ok (.aload_n 0, 1) := by decide +kernel
theorem dL_law_303 : decode cL_law 303 = .ok (.iload_n 3, 1) := by decide +kernel
theorem dL_law_304 : decode cL_law 304 = .ok (.iconst 4, 1) := by decide +kernel
theorem dL_law_305 : decode cL_law 305 = .ok (.iadd, 1) := by decide +kernel
theorem dL_law_306 : decode cL_law 306 = .ok (.iaload, 1) := by decide +kernel
theorem dL_law_307 : decode cL_law 307 = .ok (.aload_n 0, 1) := by decide +kernel
theorem dL_law_308 : decode cL_law 308 = .ok (.iload_n 3, 1) := by decide +kernel
theorem dL_law_309 : decode cL_law 309 = .ok (.iconst 5, 1) := by decide +kernel
theorem dL_law_310 : decode cL_law 310 = .ok (.iadd, 1) := by decide +kernel
theorem dL_law_311 : decode cL_law 311 = .ok (.iaload, 1) := by decide +kernel
theorem dL_law_312 : decode cL_law 312 = .ok (.invokevirtual 22, 3) := by decide +kernel
theorem dL_law_315 : decode cL_law 315 = .ok (.aload_n 2, 1) := by decide +kernel
theorem dL_law_316 : decode cL_law 316 = .ok (.aload_n 0, 1) := by decide +kernel
theorem dL_law_317 : decode cL_law 317 = .ok (.iload_n 3, 1) := by decide +kernel
theorem dL_law_318 : decode cL_law 318 = .ok (.iconst 1, 1) := by decide +kernel
theorem dL_law_319 : decode cL_law 319 = .ok (.iadd, 1) := by decide +kernel
theorem dL_law_320 : decode cL_law 320 = .ok (.iaload, 1) := by decide +kernel
theorem dL_law_321 : decode cL_law 321 = .ok (.aload_n 0, 1) := by decide +kernel
theorem dL_law_322 : decode cL_law 322 = .ok (.iload_n 3, 1) := by decide +kernel
theorem dL_law_323 : decode cL_law 323 = .ok (.iconst 2, 1) := by decide +kernel
theorem dL_law_324 : decode cL_law 324 = .ok (.iadd, 1) := by decide +kernel
theorem dL_law_325 : decode cL_law 325 = .ok (.iaload, 1) := by decide +kernel
theorem dL_law_326 : decode cL_law 326 = .ok (.aload_n 0, 1) := by decide +kernel
theorem dL_law_327 : decode cL_law 327 = .ok (.iload_n 3, 1) := by decide +kernel
theorem dL_law_328 : decode cL_law 328 = .ok (.iconst 3, 1) := by decide +kernel
theorem dL_law_329 : decode cL_law 329 = .ok (.iadd, 1) := by decide +kernel
theorem dL_law_330 : decode cL_law 330 = .ok (.iaload, 1) := by decide +kernel
theorem dL_law_331 : decode cL_law 331 = .ok (.aload_n 0, 1) := by decide +kernel
theorem dL_law_332 : decode cL_law 332 = .ok (.iload_n 3, 1) := by decide +kernel
theorem dL_law_333 : decode cL_law 333 = .ok (.iconst 4, 1) := by decide +kernel
theorem dL_law_334 : decode cL_law 334 = .ok (.iadd, 1) := by decide +kernel
theorem dL_law_335 : decode cL_law 335 = .ok (.iaload, 1) := by decide +kernel
theorem dL_law_336 : decode cL_law 336 = .ok (.aload_n 0, 1) := by decide +kernel
theorem dL_law_337 : decode cL_law 337 = .ok (.iload_n 3, 1) := by decide +kernel
theorem dL_law_338 : decode cL_law 338 = .ok (.iconst 5, 1) := by decide +kernel
theorem dL_law_339 : decode cL_law 339 = .ok (.iadd, 1) := by decide +kernel
theorem dL_law_340 : decode cL_law 340 = .ok (.iaload, 1) := by decide +kernel
theorem dL_law_341 : decode cL_law 341 = .ok (.invokevirtual 26, 3) := by decide +kernel
theorem dL_law_344 : decode cL_law 344 = .ok (.if_icmp .eq 1091, 3) := by decide +kernel
theorem dL_law_347 : decode cL_law 347 = .ok (.iconst 0, 1) := by decide +kernel
theorem dL_law_348 : decode cL_law 348 = .ok (.ireturn, 1) := by decide +kernel
theorem dL_law_349 : decode cL_law 349 = .ok (.aload_n 1, 1) := by decide +kernel
theorem dL_law_350 : decode cL_law 350 = .ok (.aload_n 0, 1) := by decide +kernel
theorem dL_law_351 : decode cL_law 351 = .ok (.iload_n 3, 1) := by decide +kernel
theorem dL_law_352 : decode cL_law 352 = .ok (.iconst 1, 1) := by decide +kernel
theorem dL_law_353 : decode cL_law 353 = .ok (.iadd, 1) := by decide +kernel
theorem dL_law_354 : decode cL_law 354 = .ok (.iaload, 1) := by decide +kernel
theorem dL_law_355 : decode cL_law 355 = .ok (.invokevirtual 27, 3) := by decide +kernel
theorem dL_law_358 : decode cL_law 358 = .ok (.aload_n 2, 1) := by decide +kernel
theorem dL_law_359 : decode cL_law 359 = .ok (.aload_n 0, 1) := by decide +kernel
theorem dL_law_360 : decode cL_law 360 = .ok (.iload_n 3, 1) := by decide +kernel
theorem dL_law_361 : decode cL_law 361 = .ok (.iconst 1, 1) := by decide +kernel
theorem dL_law_362 : decode cL_law 362 = .ok (.iadd, 1) := by decide +kernel
theorem dL_law_363 : decode cL_law 363 = .ok (.iaload, 1) := by decide +kernel
theorem dL_law_364 : decode cL_law 364 = .ok (.invokevirtual 31, 3) := by decide +kernel
theorem dL_law_367 : decode cL_law 367 = .ok (.if_icmp .eq 1068, 3) := by decide +kernel
theorem dL_law_370 : decode cL_law 370 = .ok (.iconst 0, 1) := by decide +kernel
theorem dL_law_371 : decode cL_law 371 = .ok (.ireturn, 1) := by decide +kernel
theorem dL_law_372 : decode cL_law 372 = .ok (.aload_n 1, 1) := by decide +kernel
theorem dL_law_373 : decode cL_law 373 = .ok (.aload_n 0, 1) := by decide +kernel
theorem dL_law_374 : decode cL_law 374 = .ok (.iload_n 3, 1) := by decide +kernel
theorem dL_law_375 : decode cL_law 375 = .ok (.iconst 1, 1) := by decide +kernel
theorem dL_law_376 : decode cL_law 376 = .ok (.iadd, 1) := by decide +kernel
theorem dL_law_377 : decode cL_law 377 = .ok (.iaload, 1) := by decide +kernel
theorem dL_law_378 : decode cL_law 378 = .ok (.invokevirtual 32, 3) := by decide +kernel
theorem dL_law_381 : decode cL_law 381 = .ok (.aload_n 2, 1) := by decide +kernel
theorem dL_law_382 : decode cL_law 382 = .ok (.aload_n 0, 1) := by decide +kernel
theorem dL_law_383 : decode cL_law 383 = .ok (.iload_n 3, 1) := by decide +kernel
theorem dL_law_384 : decode cL_law 384 = .ok (.iconst 1, 1) := by decide +kernel
theorem dL_law_385 : decode cL_law 385 = .ok (.iadd, 1) := by decide +kernel
theorem dL_law_386 : decode cL_law 386 = .ok (.iaload, 1) := by decide +kernel
theorem dL_law_387 : decode cL_law 387 = .ok (.invokevirtual 35, 3) := by decide +kernel
theorem dL_law_390 : decode cL_law 390 = .ok (.if_icmp .eq 1045, 3) := by decide +kernel
theorem dL_law_393 : decode cL_law 393 = .ok (.iconst 0, 1) := by decide +kernel
theorem dL_law_394 : decode cL_law 394 = .ok (.ireturn, 1) := by decide +kernel
theorem dL_law_395 : decode cL_law 395 = .ok (.aload_n 1, 1) := by decide +kernel
theorem dL_law_396 : decode cL_law 396 = .ok (.invokevirtual 36, 3) := by decide +kernel
theorem dL_law_399 : decode cL_law 399 = .ok (.aload_n 2, 1) := by decide +kernel
theorem dL_law_400 : decode cL_law 400 = .ok (.invokevirtual 40, 3) := by decide +kernel
theorem dL_law_403 : decode cL_law 403 = .ok (.if_icmp .eq 1032, 3) := by decide +kernel
theorem dL_law_406 : decode cL_law 406 = .ok (.iconst 0, 1) := by decide +kernel
theorem dL_law_407 : decode cL_law 407 = .ok (.ireturn, 1) := by decide +kernel
theorem dL_law_408 : decode cL_law 408 = .ok (.aload_n 1, 1) := by decide +kernel
theorem dL_law_409 : decode cL_law 409 = .ok (.invokevirtual 41, 3) := by decide +kernel
theorem dL_law_412 : decode cL_law 412 = .ok (.aload_n 2, 1) := by decide +kernel
theorem dL_law_413 : decode cL_law 413 = .ok (.invokevirtual 44, 3) := by decide +kernel
theorem dL_law_416 : decode cL_law 416 = .ok (.if_icmp .eq 1019, 3) := by decide +kernel
theorem dL_law_419 : decode cL_law 419 = .ok (.iconst 0, 1) := by decide +kernel
theorem dL_law_420 : decode cL_law 420 = .ok (.ireturn, 1) := by decide +kernel
theorem dL_law_421 : decode cL_law 421 = .ok (.aload_n 1, 1) := by decide +kernel
theorem dL_law_422 : decode cL_law 422 = .ok (.invokevirtual 45, 3) := by decide +kernel
theorem dL_law_425 : decode cL_law 425 = .ok (.aload_n 2, 1) := by decide +kernel
theorem dL_law_426 : decode cL_law 426 = .ok (.invokevirtual 48, 3) := by decide +kernel
theorem dL_law_429 : decode cL_law 429 = .ok (.if_icmp .eq 1006, 3) := by decide +kernel
theorem dL_law_432 : decode cL_law 432 = .ok (.iconst 0, 1) := by decide +kernel
theorem dL_law_433 : decode cL_law 433 = .ok (.ireturn, 1) := by decide +kernel
theorem dL_law_434 : decode cL_law 434 = .ok (.aload_n 1, 1) := by decide +kernel
theorem dL_law_435 : decode cL_law 435 = .ok (.aload_n 0, 1) := by decide +kernel
theorem dL_law_436 : decode cL_law 436 = .ok (.iload_n 3, 1) := by decide +kernel
theorem dL_law_437 : decode cL_law 437 = .ok (.iconst 1, 1) := by decide +kernel
theorem dL_law_438 : decode cL_law 438 = .ok (.iadd, 1) := by decide +kernel
theorem dL_law_439 : decode cL_law 439 = .ok (.iaload, 1) := by decide +kernel
theorem dL_law_440 : decode cL_law 440 = .ok (.invokevirtual 49, 3) := by decide +kernel
theorem dL_law_443 : decode cL_law 443 = .ok (.aload_n 2, 1) := by decide +kernel
theorem dL_law_444 : decode cL_law 444 = .ok (.aload_n 0, 1) := by decide +kernel
theorem dL_law_445 : decode cL_law 445 = .ok (.iload_n 3, 1) := by decide +kernel
theorem dL_law_446 : decode cL_law 446 = .ok (.iconst 1, 1) := by decide +kernel
theorem dL_law_447 : decode cL_law 447 = .ok (.iadd, 1) := by decide +kernel
theorem dL_law_448 : decode cL_law 448 = .ok (.iaload, 1) := by decide +kernel
theorem dL_law_449 : decode cL_law 449 = .ok (.invokevirtual 52, 3) := by decide +kernel
theorem dL_law_452 : decode cL_law 452 = .ok (.if_icmp .eq 983, 3) := by decide +kernel
theorem dL_law_455 : decode cL_law 455 = .ok (.iconst 0, 1) := by decide +kernel
theorem dL_law_456 : decode cL_law 456 = .ok (.ireturn, 1) := by decide +kernel
theorem dL_law_457 : decode cL_law 457 = .ok (.aload_n 1, 1) := by decide +kernel
theorem dL_law_458 : decode cL_law 458 = .ok (.aload_n 0, 1) := by decide +kernel
theorem dL_law_459 : decode cL_law 459 = .ok (.iload_n 3, 1) := by decide +kernel
theorem dL_law_460 : decode cL_law 460 = .ok (.iconst 1, 1) := by decide +kernel
theorem dL_law_461 : decode cL_law 461 = .ok (.iadd, 1) := by decide +kernel
theorem dL_law_462 : decode cL_law 462 = .ok (.iaload, 1) := by decide +kernel
theorem dL_law_463 : decode cL_law 463 = .ok (.aload_n 0, 1) := by decide +kernel
theorem dL_law_464 : decode cL_law 464 = .ok (.iload_n 3, 1) := by decide +kernel
theorem dL_law_465 : decode cL_law 465 = .ok (.iconst 2, 1) := by decide +kernel
theorem dL_law_466 : decode cL_law 466 = .ok (.iadd, 1) := by decide +kernel
theorem dL_law_467 : decode cL_law 467 = .ok (.iaload, 1) := by decide +kernel
theorem dL_law_468 : decode cL_law 468 = .ok (.invokevirtual 53, 3) := by decide +kernel
theorem dL_law_471 : decode cL_law 471 = .ok (.aload_n 2, 1) := by decide +kernel
theorem dL_law_472 : decode cL_law 472 = .ok (.aload_n 0, 1) := by decide +kernel
theorem dL_law_473 : decode cL_law 473 = .ok (.iload_n 3, 1) := by decide +kernel
theorem dL_law_474 : decode cL_law 474 = .ok (.iconst 1, 1) := by decide +kernel
theorem dL_law_475 : decode cL_law 475 = .ok (.iadd, 1) := by decide +kernel
theorem dL_law_476 : decode cL_law 476 = .ok (.iaload, 1) := by decide +kernel
theorem dL_law_477 : decode cL_law 477 = .ok (.aload_n 0, 1) := by decide +kernel
theorem dL_law_478 : decode cL_law 478 = .ok (.iload_n 3, 1) := by decide +kernel
theorem dL_law_479 : decode cL_law 479 = .ok (.iconst 2, 1) := by decide +kernel
theorem dL_law_480 : decode cL_law 480 = .ok (.iadd, 1) := by decide +kernel
theorem dL_law_481 : decode cL_law 481 = .ok (.iaload, 1) := by decide +kernel
theorem dL_law_482 : decode cL_law 482 = .ok (.invokevirtual 57, 3) := by decide +kernel
theorem dL_law_485 : decode cL_law 485 = .ok (.if_icmp .eq 950, 3) := by decide +kernel
theorem dL_law_488 : decode cL_law 488 = .ok (.iconst 0, 1) := by decide +kernel
theorem dL_law_489 : decode cL_law 489 = .ok (.ireturn, 1) := by decide +kernel
theorem dL_law_490 : decode cL_law 490 = .ok (.aload_n 1, 1) := by decide +kernel
theorem dL_law_491 : decode cL_law 491 = .ok (.aload_n 0, 1) := by decide +kernel
theorem dL_law_492 : decode cL_law 492 = .ok (.iload_n 3, 1) := by decide +kernel
theorem dL_law_493 : decode cL_law 493 = .ok (.iconst 1, 1) := by decide +kernel
theorem dL_law_494 : decode cL_law 494 = .ok (.iadd, 1) := by decide +kernel
theorem dL_law_495 : decode cL_law 495 = .ok (.iaload, 1) := by decide +kernel
theorem dL_law_496 : decode cL_law 496 = .ok (.aload_n 0, 1) := by decide +kernel
theorem dL_law_497 : decode cL_law 497 = .ok (.iload_n 3, 1) := by decide +kernel
theorem dL_law_498 : decode cL_law 498 = .ok (.iconst 2, 1) := by decide +kernel
theorem dL_law_499 : decode cL_law 499 = .ok (.iadd, 1) := by decide +kernel
theorem dL_law_500 : decode cL_law 500 = .ok (.iaload, 1) := by decide +kernel
theorem dL_law_501 : decode cL_law 501 = .ok (.invokevirtual 58, 3) := by decide +kernel
theorem dL_law_504 : decode cL_law 504 = .ok (.aload_n 2, 1) := by decide +kernel
theorem dL_law_505 : decode cL_law 505 = .ok (.aload_n 0, 1) := by decide +kernel
theorem dL_law_506 : decode cL_law 506 = .ok (.iload_n 3, 1) := by decide +kernel
theorem dL_law_507 : decode cL_law 507 = .ok (.iconst 1, 1) := by decide +kernel
theorem dL_law_508 : decode cL_law 508 = .ok (.iadd, 1) := by decide +kernel
theorem dL_law_509 : decode cL_law 509 = .ok (.iaload, 1) := by decide +kernel
theorem dL_law_510 : decode cL_law 510 = .ok (.aload_n 0, 1) := by decide +kernel
theorem dL_law_511 : decode cL_law 511 = .ok (.iload_n 3, 1) := by decide +kernel
theorem dL_law_512 : decode cL_law 512 = .ok (.iconst 2, 1) := by decide +kernel
theorem dL_law_513 : decode cL_law 513 = .ok (.iadd, 1) := by decide +kernel
theorem dL_law_514 : decode cL_law 514 = .ok (.iaload, 1) := by decide +kernel
theorem dL_law_515 : decode cL_law 515 = .ok (.invokevirtual 61, 3) := by decide +kernel
theorem dL_law_518 : decode cL_law 518 = .ok (.if_icmp .eq 917, 3) := by decide +kernel
theorem dL_law_521 : decode cL_law 521 = .ok (.iconst 0, 1) := by decide +kernel
theorem dL_law_522 : decode cL_law 522 = .ok (.ireturn, 1) := by decide +kernel
theorem dL_law_523 : decode cL_law 523 = .ok (.aload_n 1, 1) := by decide +kernel
theorem dL_law_524 : decode cL_law 524 = .ok (.aload_n 0, 1) := by decide +kernel
theorem dL_law_525 : decode cL_law 525 = .ok (.iload_n 3, 1) := by decide +kernel
theorem dL_law_526 : decode cL_law 526 = .ok (.iconst 1, 1) := by decide +kernel
theorem dL_law_527 : decode cL_law 527 = .ok (.iadd, 1) := by decide +kernel
theorem dL_law_528 : decode cL_law 528 = .ok (.iaload, 1) := by decide +kernel
theorem dL_law_529 : decode cL_law 529 = .ok (.aload_n 0, 1) := by decide +kernel
theorem dL_law_530 : decode cL_law 530 = .ok (.iload_n 3, 1) := by decide +kernel
theorem dL_law_531 : decode cL_law 531 = .ok (.iconst 2, 1) := by decide +kernel
theorem dL_law_532 : decode cL_law 532 = .ok (.iadd, 1) := by decide +kernel
theorem dL_law_533 : decode cL_law 533 = .ok (.iaload, 1) := by decide +kernel
theorem dL_law_534 : decode cL_law 534 = .ok (.invokevirtual 62, 3) := by decide +kernel
theorem dL_law_537 : decode cL_law 537 = .ok (.aload_n 2, 1) := by decide +kernel
theorem dL_law_538 : decode cL_law 538 = .ok (.aload_n 0, 1) := by decide +kernel
theorem dL_law_539 : decode cL_law 539 = .ok (.iload_n 3, 1) := by decide +kernel
theorem dL_law_540 : decode cL_law 540 = .ok (.iconst 1, 1) := by decide +kernel
theorem dL_law_541 : decode cL_law 541 = .ok (.iadd, 1) := by decide +kernel
theorem dL_law_542 : decode cL_law 542 = .ok (.iaload, 1) := by decide +kernel
theorem dL_law_543 : decode cL_law 543 = .ok (.aload_n 0, 1) := by decide +kernel
theorem dL_law_544 : decode cL_law 544 = .ok (.iload_n 3, 1) := by decide +kernel
theorem dL_law_545 : decode cL_law 545 = .ok (.iconst 2, 1) := by decide +kernel
theorem dL_law_546 : decode cL_law 546 = .ok (.iadd, 1) := by decide +kernel
theorem dL_law_547 : decode cL_law 547 = .ok (.iaload, 1) := by decide +kernel
theorem dL_law_548 : decode cL_law 548 = .ok (.invokevirtual 65, 3) := by decide +kernel
theorem dL_law_551 : decode cL_law 551 = .ok (.if_icmp .eq 884, 3) := by decide +kernel
theorem dL_law_554 : decode cL_law 554 = .ok (.iconst 0, 1) := by decide +kernel
theorem dL_law_555 : decode cL_law 555 = .ok (.ireturn, 1) := by decide +kernel
theorem dL_law_556 : decode cL_law 556 = .ok (.aload_n 1, 1) := by decide +kernel
theorem dL_law_557 : decode cL_law 557 = .ok (.aload_n 0, 1) := by decide +kernel
theorem dL_law_558 : decode cL_law 558 = .ok (.iload_n 3, 1) := by decide +kernel
theorem dL_law_559 : decode cL_law 559 = .ok (.iconst 1, 1) := by decide +kernel
theorem dL_law_560 : decode cL_law 560 = .ok (.iadd, 1) := by decide +kernel
theorem dL_law_561 : decode cL_law 561 = .ok (.iaload, 1) := by decide +kernel
theorem dL_law_562 : decode cL_law 562 = .ok (.aload_n 0, 1) := by decide +kernel
theorem dL_law_563 : decode cL_law 563 = .ok (.iload_n 3, 1) := by decide +kernel
theorem dL_law_564 : decode cL_law 564 = .ok (.iconst 2, 1) := by decide +kernel
theorem dL_law_565 : decode cL_law 565 = .ok (.iadd, 1) := by decide +kernel
theorem dL_law_566 : decode cL_law 566 = .ok (.iaload, 1) := by decide +kernel
theorem dL_law_567 : decode cL_law 567 = .ok (.invokevirtual 66, 3) := by decide +kernel
theorem dL_law_570 : decode cL_law 570 = .ok (.aload_n 2, 1) := by decide +kernel
theorem dL_law_571 : decode cL_law 571 = .ok (.aload_n 0, 1) := by decide +kernel
theorem dL_law_572 : decode cL_law 572 = .ok (.iload_n 3, 1) := by decide +kernel
theorem dL_law_573 : decode cL_law 573 = .ok (.iconst 1, 1) := by decide +kernel
theorem dL_law_574 : decode cL_law 574 = .ok (.iadd, 1) := by decide +kernel
theorem dL_law_575 : decode cL_law 575 = .ok (.iaload, 1) := by decide +kernel
theorem dL_law_576 : decode cL_law 576 = .ok (.aload_n 0, 1) := by decide +kernel
theorem dL_law_577 : decode cL_law 577 = .ok (.iload_n 3, 1) := by decide +kernel
theorem dL_law_578 : decode cL_law 578 = .ok (.iconst 2, 1) := by decide +kernel
theorem dL_law_579 : decode cL_law 579 = .ok (.iadd, 1) := by decide +kernel
theorem dL_law_580 : decode cL_law 580 = .ok (.iaload, 1) := by decide +kernel
theorem dL_law_581 : decode cL_law 581 = .ok (.invokevirtual 69, 3) := by decide +kernel
theorem dL_law_584 : decode cL_law 584 = .ok (.if_icmp .eq 851, 3) := by decide +kernel
theorem dL_law_587 : decode cL_law 587 = .ok (.iconst 0, 1) := by decide +kernel
theorem dL_law_588 : decode cL_law 588 = .ok (.ireturn, 1) := by decide +kernel
theorem dL_law_589 : decode cL_law 589 = .ok (.aload_n 1, 1) := by decide +kernel
theorem dL_law_590 : decode cL_law 590 = .ok (.aload_n 0, 1) := by decide +kernel
theorem dL_law_591 : decode cL_law 591 = .ok (.iload_n 3, 1) := by decide +kernel
theorem dL_law_592 : decode cL_law 592 = .ok (.iconst 1, 1) := by decide +kernel
theorem dL_law_593 : decode cL_law 593 = .ok (.iadd, 1) := by decide +kernel
theorem dL_law_594 : decode cL_law 594 = .ok (.iaload, 1) := by decide +kernel
theorem dL_law_595 : decode cL_law 595 = .ok (.aload_n 0, 1) := by decide +kernel
theorem dL_law_596 : decode cL_law 596 = .ok (.iload_n 3, 1) := by decide +kernel
theorem dL_law_597 : decode cL_law 597 = .ok (.iconst 2, 1) := by decide +kernel
theorem dL_law_598 : decode cL_law 598 = .ok (.iadd, 1) := by decide +kernel
theorem dL_law_599 : decode cL_law 599 = .ok (.iaload, 1) := by decide +kernel
theorem dL_law_600 : decode cL_law 600 = .ok (.invokevirtual 70, 3) := by decide +kernel
theorem dL_law_603 : decode cL_law 603 = .ok (.aload_n 2, 1) := by decide +kernel
theorem dL_law_604 : decode cL_law 604 = .ok (.aload_n 0, 1) := by decide +kernel
theorem dL_law_605 : decode cL_law 605 = .ok (.iload_n 3, 1) := by decide +kernel
theorem dL_law_606 : decode cL_law 606 = .ok (.iconst 1, 1) := by decide +kernel
theorem dL_law_607 : decode cL_law 607 = .ok (.iadd, 1) := by decide +kernel
theorem dL_law_608 : decode cL_law 608 = .ok (.iaload, 1) := by decide +kernel
theorem dL_law_609 : decode cL_law 609 = .ok (.aload_n 0, 1) := by decide +kernel
theorem dL_law_610 : decode cL_law 610 = .ok (.iload_n 3, 1) := by decide +kernel
theorem dL_law_611 : decode cL_law 611 = .ok (.iconst 2, 1) := by decide +kernel
theorem dL_law_612 : decode cL_law 612 = .ok (.iadd, 1) := by decide +kernel
theorem dL_law_613 : decode cL_law 613 = .ok (.iaload, 1) := by decide +kernel
theorem dL_law_614 : decode cL_law 614 = .ok (.invokevirtual 73, 3) := by decide +kernel
theorem dL_law_617 : decode cL_law 617 = .ok (.if_icmp .eq 818, 3) := by decide +kernel
theorem dL_law_620 : decode cL_law 620 = .ok (.iconst 0, 1) := by decide +kernel
theorem dL_law_621 : decode cL_law 621 = .ok (.ireturn, 1) := by decide +kernel
theorem dL_law_622 : decode cL_law 622 = .ok (.aload_n 1, 1) := by decide +kernel
theorem dL_law_623 : decode cL_law 623 = .ok (.aload_n 0, 1) := by decide +kernel
theorem dL_law_624 : decode cL_law 624 = .ok (.iload_n 3, 1) := by decide +kernel
theorem dL_law_625 : decode cL_law 625 = .ok (.iconst 1, 1) := by decide +kernel
theorem dL_law_626 : decode cL_law 626 = .ok (.iadd, 1) := by decide +kernel
theorem dL_law_627 : decode cL_law 627 = .ok (.iaload, 1) := by decide +kernel
theorem dL_law_628 : decode cL_law 628 = .ok (.invokevirtual 74, 3) := by decide +kernel
theorem dL_law_631 : decode cL_law 631 = .ok (.aload_n 2, 1) := by decide +kernel
theorem dL_law_632 : decode cL_law 632 = .ok (.aload_n 0, 1) := by decide +kernel
theorem dL_law_633 : decode cL_law 633 = .ok (.iload_n 3, 1) := by decide +kernel
theorem dL_law_634 : decode cL_law 634 = .ok (.iconst 1, 1) := by decide +kernel
theorem dL_law_635 : decode cL_law 635 = .ok (.iadd, 1) := by decide +kernel
theorem dL_law_636 : decode cL_law 636 = .ok (.iaload, 1) := by decide +kernel
theorem dL_law_637 : decode cL_law 637 = .ok (.invokevirtual 77, 3) := by decide +kernel
theorem dL_law_640 : decode cL_law 640 = .ok (.if_icmp .eq 795, 3) := by decide +kernel
theorem dL_law_643 : decode cL_law 643 = .ok (.iconst 0, 1) := by decide +kernel
theorem dL_law_644 : decode cL_law 644 = .ok (.ireturn, 1) := by decide +kernel
theorem dL_law_645 : decode cL_law 645 = .ok (.aload_n 1, 1) := by decide +kernel
theorem dL_law_646 : decode cL_law 646 = .ok (.aload_n 0, 1) := by decide +kernel
theorem dL_law_647 : decode cL_law 647 = .ok (.iload_n 3, 1) := by decide +kernel
theorem dL_law_648 : decode cL_law 648 = .ok (.iconst 1, 1) := by decide +kernel
theorem dL_law_649 : decode cL_law 649 = .ok (.iadd, 1) := by decide +kernel
theorem dL_law_650 : decode cL_law 650 = .ok (.iaload, 1) := by decide +kernel
theorem dL_law_651 : decode cL_law 651 = .ok (.invokevirtual 78, 3) := by decide +kernel
theorem dL_law_654 : decode cL_law 654 = .ok (.aload_n 2, 1) := by decide +kernel
theorem dL_law_655 : decode cL_law 655 = .ok (.aload_n 0, 1) := by decide +kernel
theorem dL_law_656 : decode cL_law 656 = .ok (.iload_n 3, 1) := by decide +kernel
theorem dL_law_657 : decode cL_law 657 = .ok (.iconst 1, 1) := by decide +kernel
theorem dL_law_658 : decode cL_law 658 = .ok (.iadd, 1) := by decide +kernel
theorem dL_law_659 : decode cL_law 659 = .ok (.iaload, 1) := by decide +kernel
theorem dL_law_660 : decode cL_law 660 = .ok (.invokevirtual 81, 3) := by decide +kernel
theorem dL_law_663 : decode cL_law 663 = .ok (.if_icmp .eq 772, 3) := by decide +kernel
theorem dL_law_666 : decode cL_law 666 = .ok (.iconst 0, 1) := by decide +kernel
theorem dL_law_667 : decode cL_law 667 = .ok (.ireturn, 1) := by decide +kernel
theorem dL_law_668 : decode cL_law 668 = .ok (.aload_n 1, 1) := by decide +kernel
theorem dL_law_669 : decode cL_law 669 = .ok (.aload_n 0, 1) := by decide +kernel
theorem dL_law_670 : decode cL_law 670 = .ok (.iload_n 3, 1) := by decide +kernel
theorem dL_law_671 : decode cL_law 671 = .ok (.iconst 1, 1) := by decide +kernel
theorem dL_law_672 : decode cL_law 672 = .ok (.iadd, 1) := by decide +kernel
theorem dL_law_673 : decode cL_law 673 = .ok (.iaload, 1) := by decide +kernel
theorem dL_law_674 : decode cL_law 674 = .ok (.aload_n 0, 1) := by decide +kernel
theorem dL_law_675 : decode cL_law 675 = .ok (.iload_n 3, 1) := by decide +kernel
theorem dL_law_676 : decode cL_law 676 = .ok (.iconst 2, 1) := by decide +kernel
theorem dL_law_677 : decode cL_law 677 = .ok (.iadd, 1) := by decide +kernel
theorem dL_law_678 : decode cL_law 678 = .ok (.iaload, 1) := by decide +kernel
theorem dL_law_679 : decode cL_law 679 = .ok (.aload_n 0, 1) := by decide +kernel
theorem dL_law_680 : decode cL_law 680 = .ok (.iload_n 3, 1) := by decide +kernel
theorem dL_law_681 : decode cL_law 681 = .ok (.iconst 3, 1) := by decide +kernel
theorem dL_law_682 : decode cL_law 682 = .ok (.iadd, 1) := by decide +kernel
theorem dL_law_683 : decode cL_law 683 = .ok (.iaload, 1) := by decide +kernel
theorem dL_law_684 : decode cL_law 684 = .ok (.invokevirtual 82, 3) := by decide +kernel
theorem dL_law_687 : decode cL_law 687 = .ok (.aload_n 2, 1) := by decide +kernel
theorem dL_law_688 : decode cL_law 688 = .ok (.aload_n 0, 1) := by decide +kernel
theorem dL_law_689 : decode cL_law 689 = .ok (.iload_n 3, 1) := by decide +kernel
theorem dL_law_690 : decode cL_law 690 = .ok (.iconst 1, 1) := by decide +kernel
theorem dL_law_691 : decode cL_law 691 = .ok (.iadd, 1) := by decide +kernel
theorem dL_law_692 : decode cL_law 692 = .ok (.iaload, 1) := by decide +kernel
theorem dL_law_693 : decode cL_law 693 = .ok (.aload_n 0, 1) := by decide +kernel
theorem dL_law_694 : decode cL_law 694 = .ok (.iload_n 3, 1) := by decide +kernel
theorem dL_law_695 : decode cL_law 695 = .ok (.iconst 2, 1) := by decide +kernel
theorem dL_law_696 : decode cL_law 696 = .ok (.iadd, 1) := by decide +kernel
theorem dL_law_697 : decode cL_law 697 = .ok (.iaload, 1) := by decide +kernel
theorem dL_law_698 : decode cL_law 698 = .ok (.aload_n 0, 1) := by decide +kernel
theorem dL_law_699 : decode cL_law 699 = .ok (.iload_n 3, 1) := by decide +kernel
theorem dL_law_700 : decode cL_law 700 = .ok (.iconst 3, 1) := by decide +kernel
theorem dL_law_701 : decode cL_law 701 = .ok (.iadd, 1) := by decide +kernel
theorem dL_law_702 : decode cL_law 702 = .ok (.iaload, 1) := by decide +kernel
theorem dL_law_703 : decode cL_law 703 = .ok (.invokevirtual 85, 3) := by decide +kernel
theorem dL_law_706 : decode cL_law 706 = .ok (.if_icmp .eq 729, 3) := by decide +kernel
theorem dL_law_709 : decode cL_law 709 = .ok (.iconst 0, 1) := by decide +kernel
theorem dL_law_710 : decode cL_law 710 = .ok (.ireturn, 1) := by decide +kernel
theorem dL_law_711 : decode cL_law 711 = .ok (.aload_n 1, 1) := by decide +kernel
theorem dL_law_712 : decode cL_law 712 = .ok (.aload_n 0, 1) := by decide +kernel
theorem dL_law_713 : decode cL_law 713 = .ok (.iload_n 3, 1) := by decide +kernel
theorem dL_law_714 : decode cL_law 714 = .ok (.iconst 1, 1) := by decide +kernel
theorem dL_law_715 : decode cL_law 715 = .ok (.iadd, 1) := by decide +kernel
theorem dL_law_716 : decode cL_law 716 = .ok (.iaload, 1) := by decide +kernel
theorem dL_law_717 : decode cL_law 717 = .ok (.aload_n 0, 1) := by decide +kernel
theorem dL_law_718 : decode cL_law 718 = .ok (.iload_n 3, 1) := by decide +kernel
theorem dL_law_719 : decode cL_law 719 = .ok (.iconst 2, 1) := by decide +kernel
theorem dL_law_720 : decode cL_law 720 = .ok (.iadd, 1) := by decide +kernel
theorem dL_law_721 : decode cL_law 721 = .ok (.iaload, 1) := by decide +kernel
theorem dL_law_722 : decode cL_law 722 = .ok (.invokevirtual 86, 3) := by decide +kernel
theorem dL_law_725 : decode cL_law 725 = .ok (.aload_n 2, 1) := by decide +kernel
theorem dL_law_726 : decode cL_law 726 = .ok (.aload_n 0, 1) := by decide +kernel
theorem dL_law_727 : decode cL_law 727 = .ok (.iload_n 3, 1) := by decide +kernel
theorem dL_law_728 : decode cL_law 728 = .ok (.iconst 1, 1) := by decide +kernel
theorem dL_law_729 : decode cL_law 729 = .ok (.iadd, 1) := by decide +kernel
theorem dL_law_730 : decode cL_law 730 = .ok (.iaload, 1) := by decide +kernel
theorem dL_law_731 : decode cL_law 731 = .ok (.aload_n 0, 1) := by decide +kernel
theorem dL_law_732 : decode cL_law 732 = .ok (.iload_n 3, 1) := by decide +kernel
theorem dL_law_733 : decode cL_law 733 = .ok (.iconst 2, 1) := by decide +kernel
theorem dL_law_734 : decode cL_law 734 = .ok (.iadd, 1) := by decide +kernel
theorem dL_law_735 : decode cL_law 735 = .ok (.iaload, 1) := by decide +kernel
theorem dL_law_736 : decode cL_law 736 = .ok (.invokevirtual 89, 3) := by decide +kernel
theorem dL_law_739 : decode cL_law 739 = .ok (.if_icmp .eq 696, 3) := by decide +kernel
theorem dL_law_742 : decode cL_law 742 = .ok (.iconst 0, 1) := by decide +kernel
theorem dL_law_743 : decode cL_law 743 = .ok (.ireturn, 1) := by decide +kernel
theorem dL_law_744 : decode cL_law 744 = .ok (.aload_n 1, 1) := by decide +kernel
theorem dL_law_745 : decode cL_law 745 = .ok (.aload_n 0, 1) := by decide +kernel
theorem dL_law_746 : decode cL_law 746 = .ok (.iload_n 3, 1) := by decide +kernel
theorem dL_law_747 : decode cL_law 747 = .ok (.iconst 1, 1) := by decide +kernel
theorem dL_law_748 : decode cL_law 748 = .ok (.iadd, 1) := by decide +kernel
theorem dL_law_749 : decode cL_law 749 = .ok (.iaload, 1) := by decide +kernel
theorem dL_law_750 : decode cL_law 750 = .ok (.invokevirtual 90, 3) := by decide +kernel
theorem dL_law_753 : decode cL_law 753 = .ok (.aload_n 2, 1) := by decide +kernel
theorem dL_law_754 : decode cL_law 754 = .ok (.aload_n 0, 1) := by decide +kernel
theorem dL_law_755 : decode cL_law 755 = .ok (.iload_n 3, 1) := by decide +kernel
theorem dL_law_756 : decode cL_law 756 = .ok (.iconst 1, 1) := by decide +kernel
theorem dL_law_757 : decode cL_law 757 = .ok (.iadd, 1) := by decide +kernel
theorem dL_law_758 : decode cL_law 758 = .ok (.iaload, 1) := by decide +kernel
theorem dL_law_759 : decode cL_law 759 = .ok (.invokevirtual 93, 3) := by decide +kernel
theorem dL_law_762 : decode cL_law 762 = .ok (.if_icmp .eq 673, 3) := by decide +kernel
theorem dL_law_765 : decode cL_law 765 = .ok (.iconst 0, 1) := by decide +kernel
theorem dL_law_766 : decode cL_law 766 = .ok (.ireturn, 1) := by decide +kernel
theorem dL_law_767 : decode cL_law 767 = .ok (.aload_n 1, 1) := by decide +kernel
theorem dL_law_768 : decode cL_law 768 = .ok (.aload_n 0, 1) := by decide +kernel
theorem dL_law_769 : decode cL_law 769 = .ok (.iload_n 3, 1) := by decide +kernel
theorem dL_law_770 : decode cL_law 770 = .ok (.iconst 1, 1) := by decide +kernel
theorem dL_law_771 : decode cL_law 771 = .ok (.iadd, 1) := by decide +kernel
theorem dL_law_772 : decode cL_law 772 = .ok (.iaload, 1) := by decide +kernel
theorem dL_law_773 : decode cL_law 773 = .ok (.invokevirtual 94, 3) := by decide +kernel
theorem dL_law_776 : decode cL_law 776 = .ok (.aload_n 2, 1) := by decide +kernel
theorem dL_law_777 : decode cL_law 777 = .ok (.aload_n 0, 1) := by decide +kernel
theorem dL_law_778 : decode cL_law 778 = .ok (.iload_n 3, 1) := by decide +kernel
theorem dL_law_779 : decode cL_law 779 = .ok (.iconst 1, 1) := by decide +kernel
theorem dL_law_780 : decode cL_law 780 = .ok (.iadd, 1) := by decide +kernel
theorem dL_law_781 : decode cL_law 781 = .ok (.iaload, 1) := by decide +kernel
theorem dL_law_782 : decode cL_law 782 = .ok (.invokevirtual 97, 3) := by decide +kernel
theorem dL_law_785 : decode cL_law 785 = .ok (.if_icmp .eq 650, 3) := by decide +kernel
theorem dL_law_788 : decode cL_law 788 = .ok (.iconst 0, 1) := by decide +kernel
theorem dL_law_789 : decode cL_law 789 = .ok (.ireturn, 1) := by decide +kernel
theorem dL_law_790 : decode cL_law 790 = .ok (.aload_n 1, 1) := by decide +kernel
theorem dL_law_791 : decode cL_law 791 = .ok (.aload_n 0, 1) := by decide +kernel
theorem dL_law_792 : decode cL_law 792 = .ok (.iload_n 3, 1) := by decide +kernel
theorem dL_law_793 : decode cL_law 793 = .ok (.iconst 1, 1) := by decide +kernel
theorem dL_law_794 : decode cL_law 794 = .ok (.iadd, 1) := by decide +kernel
theorem dL_law_795 : decode cL_law 795 = .ok (.iaload, 1) := by decide +kernel
theorem dL_law_796 : decode cL_law 796 = .ok (.aload_n 0, 1) := by decide +kernel
theorem dL_law_797 : decode cL_law 797 = .ok (.iload_n 3, 1) := by decide +kernel
theorem dL_law_798 : decode cL_law 798 = .ok (.iconst 2, 1) := by decide +kernel
theorem dL_law_799 : decode cL_law 799 = .ok (.iadd, 1) := by decide +kernel
theorem dL_law_800 : decode cL_law 800 = .ok (.iaload, 1) := by decide +kernel
theorem dL_law_801 : decode cL_law 801 = .ok (.aload_n 0, 1) := by decide +kernel
theorem dL_law_802 : decode cL_law 802 = .ok (.iload_n 3, 1) := by decide +kernel
theorem dL_law_803 : decode cL_law 803 = .ok (.iconst 3, 1) := by decide +kernel
theorem dL_law_804 : decode cL_law 804 = .ok (.iadd, 1) := by decide +kernel
theorem dL_law_805 : decode cL_law 805 = .ok (.iaload, 1) := by decide +kernel
theorem dL_law_806 : decode cL_law 806 = .ok (.invokevirtual 98, 3) := by decide +kernel
theorem dL_law_809 : decode cL_law 809 = .ok (.aload_n 2, 1) := by decide +kernel
theorem dL_law_810 : decode cL_law 810 = .ok (.aload_n 0, 1) := by decide +kernel
theorem dL_law_811 : decode cL_law 811 = .ok (.iload_n 3, 1) := by decide +kernel
theorem dL_law_812 : decode cL_law 812 = .ok (.iconst 1, 1) := by decide +kernel
theorem dL_law_813 : decode cL_law 813 = .ok (.iadd, 1) := by decide +kernel
theorem dL_law_814 : decode cL_law 814 = .ok (.iaload, 1) := by decide +kernel
theorem dL_law_815 : decode cL_law 815 = .ok (.aload_n 0, 1) := by decide +kernel
theorem dL_law_816 : decode cL_law 816 = .ok (.iload_n 3, 1) := by decide +kernel
theorem dL_law_817 : decode cL_law 817 = .ok (.iconst 2, 1) := by decide +kernel
theorem dL_law_818 : decode cL_law 818 = .ok (.iadd, 1) := by decide +kernel
theorem dL_law_819 : decode cL_law 819 = .ok (.iaload, 1) := by decide +kernel
theorem dL_law_820 : decode cL_law 820 = .ok (.aload_n 0, 1) := by decide +kernel
theorem dL_law_821 : decode cL_law 821 = .ok (.iload_n 3, 1) := by decide +kernel
theorem dL_law_822 : decode cL_law 822 = .ok (.iconst 3, 1) := by decide +kernel
theorem dL_law_823 : decode cL_law 823 = .ok (.iadd, 1) := by decide +kernel
theorem dL_law_824 : decode cL_law 824 = .ok (.iaload, 1) := by decide +kernel
theorem dL_law_825 : decode cL_law 825 = .ok (.invokevirtual 101, 3) := by decide +kernel
theorem dL_law_828 : decode cL_law 828 = .ok (.if_icmp .eq 607, 3) := by decide +kernel
theorem dL_law_831 : decode cL_law 831 = .ok (.iconst 0, 1) := by decide +kernel
theorem dL_law_832 : decode cL_law 832 = .ok (.ireturn, 1) := by decide +kernel
theorem dL_law_833 : decode cL_law 833 = .ok (.aload_n 1, 1) := by decide +kernel
theorem dL_law_834 : decode cL_law 834 = .ok (.aload_n 0, 1) := by decide +kernel
theorem dL_law_835 : decode cL_law 835 = .ok (.iload_n 3, 1) := by decide +kernel
theorem dL_law_836 : decode cL_law 836 = .ok (.iconst 1, 1) := by decide +kernel
theorem dL_law_837 : decode cL_law 837 = .ok (.iadd, 1) := by decide +kernel
theorem dL_law_838 : decode cL_law 838 = .ok (.iaload, 1) := by decide +kernel
theorem dL_law_839 : decode cL_law 839 = .ok (.aload_n 0, 1) := by decide +kernel
theorem dL_law_840 : decode cL_law 840 = .ok (.iload_n 3, 1) := by decide +kernel
theorem dL_law_841 : decode cL_law 841 = .ok (.iconst 2, 1) := by decide +kernel
theorem dL_law_842 : decode cL_law 842 = .ok (.iadd, 1) := by decide +kernel
theorem dL_law_843 : decode cL_law 843 = .ok (.iaload, 1) := by decide +kernel
theorem dL_law_844 : decode cL_law 844 = .ok (.aload_n 0, 1) := by decide +kernel
theorem dL_law_845 : decode cL_law 845 = .ok (.iload_n 3, 1) := by decide +kernel
theorem dL_law_846 : decode cL_law 846 = .ok (.iconst 3, 1) := by decide +kernel
theorem dL_law_847 : decode cL_law 847 = .ok (.iadd, 1) := by decide +kernel
theorem dL_law_848 : decode cL_law 848 = .ok (.iaload, 1) := by decide +kernel
theorem dL_law_849 : decode cL_law 849 = .ok (.invokevirtual 102, 3) := by decide +kernel
theorem dL_law_852 : decode cL_law 852 = .ok (.aload_n 2, 1) := by decide +kernel
theorem dL_law_853 : decode cL_law 853 = .ok (.aload_n 0, 1) := by decide +kernel
theorem dL_law_854 : decode cL_law 854 = .ok (.iload_n 3, 1) := by decide +kernel
theorem dL_law_855 : decode cL_law 855 = .ok (.iconst 1, 1) := by decide +kernel
theorem dL_law_856 : decode cL_law 856 = .ok (.iadd, 1) := by decide +kernel
theorem dL_law_857 : decode cL_law 857 = .ok (.iaload, 1) := by decide +kernel
theorem dL_law_858 : decode cL_law 858 = .ok (.aload_n 0, 1) := by decide +kernel
theorem dL_law_859 : decode cL_law 859 = .ok (.iload_n 3, 1) := by decide +kernel
theorem dL_law_860 : decode cL_law 860 = .ok (.iconst 2, 1) := by decide +kernel
theorem dL_law_861 : decode cL_law 861 = .ok (.iadd, 1) := by decide +kernel
theorem dL_law_862 : decode cL_law 862 = .ok (.iaload, 1) := by decide +kernel
theorem dL_law_863 : decode cL_law 863 = .ok (.aload_n 0, 1) := by decide +kernel
theorem dL_law_864 : decode cL_law 864 = .ok (.iload_n 3, 1) := by decide +kernel
theorem dL_law_865 : decode cL_law 865 = .ok (.iconst 3, 1) := by decide +kernel
theorem dL_law_866 : decode cL_law 866 = .ok (.iadd, 1) := by decide +kernel
theorem dL_law_867 : decode cL_law 867 = .ok (.iaload, 1) := by decide +kernel
theorem dL_law_868 : decode cL_law 868 = .ok (.invokevirtual 105, 3) := by decide +kernel
theorem dL_law_871 : decode cL_law 871 = .ok (.if_icmp .eq 564, 3) := by decide +kernel
theorem dL_law_874 : decode cL_law 874 = .ok (.iconst 0, 1) := by decide +kernel
theorem dL_law_875 : decode cL_law 875 = .ok (.ireturn, 1) := by decide +kernel
theorem dL_law_876 : decode cL_law 876 = .ok (.aload_n 1, 1) := by decide +kernel
theorem dL_law_877 : decode cL_law 877 = .ok (.aload_n 0, 1) := by decide +kernel
theorem dL_law_878 : decode cL_law 878 = .ok (.iload_n 3, 1) := by decide +kernel
theorem dL_law_879 : decode cL_law 879 = .ok (.iconst 1, 1) := by decide +kernel
theorem dL_law_880 : decode cL_law 880 = .ok (.iadd, 1) := by decide +kernel
theorem dL_law_881 : decode cL_law 881 = .ok (.iaload, 1) := by decide +kernel
theorem dL_law_882 : decode cL_law 882 = .ok (.aload_n 0, 1) := by decide +kernel
theorem dL_law_883 : decode cL_law 883 = .ok (.iload_n 3, 1) := by decide +kernel
theorem dL_law_884 : decode cL_law 884 = .ok (.iconst 2, 1) := by decide +kernel
theorem dL_law_885 : decode cL_law 885 = .ok (.iadd, 1) := by decide +kernel
theorem dL_law_886 : decode cL_law 886 = .ok (.iaload, 1) := by decide +kernel
theorem dL_law_887 : decode cL_law 887 = .ok (.invokevirtual 106, 3) := by decide +kernel
theorem dL_law_890 : decode cL_law 890 = .ok (.aload_n 2, 1) := by decide +kernel
theorem dL_law_891 : decode cL_law 891 = .ok (.aload_n 0, 1) := by decide +kernel
theorem dL_law_892 : decode cL_law 892 = .ok (.iload_n 3, 1) := by decide +kernel
theorem dL_law_893 : decode cL_law 893 = .ok (.iconst 1, 1) := by decide +kernel
theorem dL_law_894 : decode cL_law 894 = .ok (.iadd, 1) := by decide +kernel
theorem dL_law_895 : decode cL_law 895 = .ok (.iaload, 1) := by decide +kernel
theorem dL_law_896 : decode cL_law 896 = .ok (.aload_n 0, 1) := by decide +kernel
theorem dL_law_897 : decode cL_law 897 = .ok (.iload_n 3, 1) := by decide +kernel
theorem dL_law_898 : decode cL_law 898 = .ok (.iconst 2, 1) := by decide +kernel
theorem dL_law_899 : decode cL_law 899 = .ok (.iadd, 1) := by decide +kernel
theorem dL_law_900 : decode cL_law 900 = .ok (.iaload, 1) := by decide +kernel
theorem dL_law_901 : decode cL_law 901 = .ok (.invokevirtual 109, 3) := by decide +kernel
theorem dL_law_904 : decode cL_law 904 = .ok (.if_icmp .eq 531, 3) := by decide +kernel
theorem dL_law_907 : decode cL_law 907 = .ok (.iconst 0, 1) := by decide +kernel
theorem dL_law_908 : decode cL_law 908 = .ok (.ireturn, 1) := by decide +kernel
theorem dL_law_909 : decode cL_law 909 = .ok (.aload_n 1, 1) := by decide +kernel
theorem dL_law_910 : decode cL_law 910 = .ok (.aload_n 0, 1) := by decide +kernel
theorem dL_law_911 : decode cL_law 911 = .ok (.iload_n 3, 1) := by decide +kernel
theorem dL_law_912 : decode cL_law 912 = .ok (.iconst 1, 1) := by decide +kernel
theorem dL_law_913 : decode cL_law 913 = .ok (.iadd, 1) := by decide +kernel
theorem dL_law_914 : decode cL_law 914 = .ok (.iaload, 1) := by decide +kernel
theorem dL_law_915 : decode cL_law 915 = .ok (.invokevirtual 110, 3) := by decide +kernel
theorem dL_law_918 : decode cL_law 918 = .ok (.aload_n 2, 1) := by decide +kernel
theorem dL_law_919 : decode cL_law 919 = .ok (.aload_n 0, 1) := by decide +kernel
theorem dL_law_920 : decode cL_law 920 = .ok (.iload_n 3, 1) := by decide +kernel
theorem dL_law_921 : decode cL_law 921 = .ok (.iconst 1, 1) := by decide +kernel
theorem dL_law_922 : decode cL_law 922 = .ok (.iadd, 1) := by decide +kernel
theorem dL_law_923 : decode cL_law 923 = .ok (.iaload, 1) := by decide +kernel
theorem dL_law_924 : decode cL_law 924 = .ok (.invokevirtual 113, 3) := by decide +kernel
theorem dL_law_927 : decode cL_law 927 = .ok (.if_icmp .eq 508, 3) := by decide +kernel
theorem dL_law_930 : decode cL_law 930 = .ok (.iconst 0, 1) := by decide +kernel
theorem dL_law_931 : decode cL_law 931 = .ok (.ireturn, 1) := by decide +kernel
theorem dL_law_932 : decode cL_law 932 = .ok (.aload_n 1, 1) := by decide +kernel
theorem dL_law_933 : decode cL_law 933 = .ok (.aload_n 0, 1) := by decide +kernel
theorem dL_law_934 : decode cL_law 934 = .ok (.iload_n 3, 1) := by decide +kernel
theorem dL_law_935 : decode cL_law 935 = .ok (.iconst 1, 1) := by decide +kernel
theorem dL_law_936 : decode cL_law 936 = .ok (.iadd, 1) := by decide +kernel
theorem dL_law_937 : decode cL_law 937 = .ok (.iaload, 1) := by decide +kernel
theorem dL_law_938 : decode cL_law 938 = .ok (.invokevirtual 114, 3) := by decide +kernel
theorem dL_law_941 : decode cL_law 941 = .ok (.aload_n 2, 1) := by decide +kernel
theorem dL_law_942 : decode cL_law 942 = .ok (.aload_n 0, 1) := by decide +kernel
theorem dL_law_943 : decode cL_law 943 = .ok (.iload_n 3, 1) := by decide +kernel
theorem dL_law_944 : decode cL_law 944 = .ok (.iconst 1, 1) := by decide +kernel
theorem dL_law_945 : decode cL_law 945 = .ok (.iadd, 1) := by decide +kernel
theorem dL_law_946 : decode cL_law 946 = .ok (.iaload, 1) := by decide +kernel
theorem dL_law_947 : decode cL_law 947 = .ok (.invokevirtual 117, 3) := by decide +kernel
theorem dL_law_950 : decode cL_law 950 = .ok (.if_icmp .eq 485, 3) := by decide +kernel
theorem dL_law_953 : decode cL_law 953 = .ok (.iconst 0, 1) := by decide +kernel
theorem dL_law_954 : decode cL_law 954 = .ok (.ireturn, 1) := by decide +kernel
theorem dL_law_955 : decode cL_law 955 = .ok (.aload_n 1, 1) := by decide +kernel
theorem dL_law_956 : decode cL_law 956 = .ok (.aload_n 0, 1) := by decide +kernel
theorem dL_law_957 : decode cL_law 957 = .ok (.iload_n 3, 1) := by decide +kernel
theorem dL_law_958 : decode cL_law 958 = .ok (.iconst 1, 1) := by decide +kernel
theorem dL_law_959 : decode cL_law 959 = .ok (.iadd, 1) := by decide +kernel
theorem dL_law_960 : decode cL_law 960 = .ok (.iaload, 1) := by decide +kernel
theorem dL_law_961 : decode cL_law 961 = .ok (.aload_n 0, 1) := by decide +kernel
theorem dL_law_962 : decode cL_law 962 = .ok (.iload_n 3, 1) := by decide +kernel
theorem dL_law_963 : decode cL_law 963 = .ok (.iconst 2, 1) := by decide +kernel
theorem dL_law_964 : decode cL_law 964 = .ok (.iadd, 1) := by decide +kernel
theorem dL_law_965 : decode cL_law 965 = .ok (.iaload, 1) := by decide +kernel
theorem dL_law_966 : decode cL_law 966 = .ok (.aload_n 0, 1) := by decide +kernel
theorem dL_law_967 : decode cL_law 967 = .ok (.iload_n 3, 1) := by decide +kernel
theorem dL_law_968 : decode cL_law 968 = .ok (.iconst 3, 1) := by decide +kernel
theorem dL_law_969 : decode cL_law 969 = .ok (.iadd, 1) := by decide +kernel
theorem dL_law_970 : decode cL_law 970 = .ok (.iaload, 1) := by decide +kernel
theorem dL_law_971 : decode cL_law 971 = .ok (.aload_n 0, 1) := by decide +kernel
theorem dL_law_972 : decode cL_law 972 = .ok (.iload_n 3, 1) := by decide +kernel
theorem dL_law_973 : decode cL_law 973 = .ok (.iconst 4, 1) := by decide +kernel
theorem dL_law_974 : decode cL_law 974 = .ok (.iadd, 1) := by decide +kernel
theorem dL_law_975 : decode cL_law 975 = .ok (.iaload, 1) := by decide +kernel
theorem dL_law_976 : decode cL_law 976 = .ok (.aload_n 0, 1) := by decide +kernel
theorem dL_law_977 : decode cL_law 977 = .ok (.iload_n 3, 1) := by decide +kernel
theorem dL_law_978 : decode cL_law 978 = .ok (.iconst 5, 1) := by decide +kernel
theorem dL_law_979 : decode cL_law 979 = .ok (.iadd, 1) := by decide +kernel
theorem dL_law_980 : decode cL_law 980 = .ok (.iaload, 1) := by decide +kernel
theorem dL_law_981 : decode cL_law 981 = .ok (.invokevirtual 118, 3) := by decide +kernel
theorem dL_law_984 : decode cL_law 984 = .ok (.aload_n 2, 1) := by decide +kernel
theorem dL_law_985 : decode cL_law 985 = .ok (.aload_n 0, 1) := by decide +kernel
theorem dL_law_986 : decode cL_law 986 = .ok (.iload_n 3, 1) := by decide +kernel
theorem dL_law_987 : decode cL_law 987 = .ok (.iconst 1, 1) := by decide +kernel
theorem dL_law_988 : decode cL_law 988 = .ok (.iadd, 1) := by decide +kernel
theorem dL_law_989 : decode cL_law 989 = .ok (.iaload, 1) := by decide +kernel
theorem dL_law_990 : decode cL_law 990 = .ok (.aload_n 0, 1) := by decide +kernel
theorem dL_law_991 : decode cL_law 991 = .ok (.iload_n 3, 1) := by decide +kernel
theorem dL_law_992 : decode cL_law 992 = .ok (.iconst 2, 1) := by decide +kernel
theorem dL_law_993 : decode cL_law 993 = .ok (.iadd, 1) := by decide +kernel
theorem dL_law_994 : decode cL_law 994 = .ok (.iaload, 1) := by decide +kernel
theorem dL_law_995 : decode cL_law 995 = .ok (.aload_n 0, 1) := by decide +kernel
theorem dL_law_996 : decode cL_law 996 = .ok (.iload_n 3, 1) := by decide +kernel
theorem dL_law_997 : decode cL_law 997 = .ok (.iconst 3, 1) := by decide +kernel
theorem dL_law_998 : decode cL_law 998 = .ok (.iadd, 1) := by decide +kernel
theorem dL_law_999 : decode cL_law 999 = .ok (.iaload, 1) := by decide +kernel
theorem dL_law_1000 : decode cL_law 1000 = .ok (.aload_n 0, 1) := by decide +kernel
theorem dL_law_1001 : decode cL_law 1001 = .ok (.iload_n 3, 1) := by decide +kernel
theorem dL_law_1002 : decode cL_law 1002 = .ok (.iconst 4, 1) := by decide +kernel
theorem dL_law_1003 : decode cL_law 1003 = .ok (.iadd, 1) := by decide +kernel
theorem dL_law_1004 : decode cL_law 1004 = .ok (.iaload, 1) := by decide +kernel
theorem dL_law_1005 : decode cL_law 1005 = .ok (.aload_n 0, 1) := by decide +kernel
theorem dL_law_1006 : decode cL_law 1006 = .ok (.iload_n 3, 1) := by decide +kernel
theorem dL_law_1007 : decode cL_law 1007 = .ok (.iconst 5, 1) := by decide +kernel
theorem dL_law_1008 : decode cL_law 1008 = .ok (.iadd, 1) := by decide +kernel
theorem dL_law_1009 : decode cL_law 1009 = .ok (.iaload, 1) := by decide +kernel
theorem dL_law_1010 : decode cL_law 1010 = .ok (.invokevirtual 121, 3) := by decide +kernel
theorem dL_law_1013 : decode cL_law 1013 = .ok (.if_icmp .eq 422, 3) := by decide +kernel
theorem dL_law_1016 : decode cL_law 1016 = .ok (.iconst 0, 1) := by decide +kernel
theorem dL_law_1017 : decode cL_law 1017 = .ok (.ireturn, 1) := by decide +kernel
theorem dL_law_1018 : decode cL_law 1018 = .ok (.aload_n 1, 1) := by decide +kernel
theorem dL_law_1019 : decode cL_law 1019 = .ok (.aload_n 0, 1) := by decide +kernel
theorem dL_law_1020 : decode cL_law 1020 = .ok (.iload_n 3, 1) := by decide +kernel
theorem dL_law_1021 : decode cL_law 1021 = .ok (.iconst 1, 1) := by decide +kernel
theorem dL_law_1022 : decode cL_law 1022 = .ok (.iadd, 1) := by decide +kernel
theorem dL_law_1023 : decode cL_law 1023 = .ok (.iaload, 1) := by decide +kernel
theorem dL_law_1024 : decode cL_law 1024 = .ok (.aload_n 0, 1) := by decide +kernel
theorem dL_law_1025 : decode cL_law 1025 = .ok (.iload_n 3, 1) := by decide +kernel
theorem dL_law_1026 : decode cL_law 1026 = .ok (.iconst 2, 1) := by decide +kernel
theorem dL_law_1027 : decode cL_law 1027 = .ok (.iadd, 1) := by decide +kernel
theorem dL_law_1028 : decode cL_law 1028 = .ok (.iaload, 1) := by decide +kernel
theorem dL_law_1029 : decode cL_law 1029 = .ok (.aload_n 0, 1) := by decide +kernel
theorem dL_law_1030 : decode cL_law 1030 = .ok (.iload_n 3, 1) := by decide +kernel
theorem dL_law_1031 : decode cL_law 1031 = .ok (.iconst 3, 1) := by decide +kernel
theorem dL_law_1032 : decode cL_law 1032 = .ok (.iadd, 1) := by decide +kernel
theorem dL_law_1033 : decode cL_law 1033 = .ok (.iaload, 1) := by decide +kernel
theorem dL_law_1034 : decode cL_law 1034 = .ok (.aload_n 0, 1) := by decide +kernel
theorem dL_law_1035 : decode cL_law 1035 = .ok (.iload_n 3, 1) := by decide +kernel
theorem dL_law_1036 : decode cL_law 1036 = .ok (.iconst 4, 1) := by decide +kernel
theorem dL_law_1037 : decode cL_law 1037 = .ok (.iadd, 1) := by decide +kernel
theorem dL_law_1038 : decode cL_law 1038 = .ok (.iaload, 1) := by decide +kernel
theorem dL_law_1039 : decode cL_law 1039 = .ok (.aload_n 0, 1) := by decide +kernel
theorem dL_law_1040 : decode cL_law 1040 = .ok (.iload_n 3, 1) := by decide +kernel
theorem dL_law_1041 : decode cL_law 1041 = .ok (.iconst 5, 1) := by decide +kernel
theorem dL_law_1042 : decode cL_law 1042 = .ok (.iadd, 1) := by decide +kernel
theorem dL_law_1043 : decode cL_law 1043 = .ok (.iaload, 1) := by decide +kernel
theorem dL_law_1044 : decode cL_law 1044 = .ok (.invokevirtual 122, 3) := by decide +kernel
theorem dL_law_1047 : decode cL_law 1047 = .ok (.aload_n 2, 1) := by decide +kernel
theorem dL_law_1048 : decode cL_law 1048 = .ok (.aload_n 0, 1) := by decide +kernel
theorem dL_law_1049 : decode cL_law 1049 = .ok (.iload_n 3, 1) := by decide +kernel
theorem dL_law_1050 : decode cL_law 1050 = .ok (.iconst 1, 1) := by decide +kernel
theorem dL_law_1051 : decode cL_law 1051 = .ok (.iadd, 1) := by decide +kernel
theorem dL_law_1052 : decode cL_law 1052 = .ok (.iaload, 1) := by decide +kernel
theorem dL_law_1053 : decode cL_law 1053 = .ok (.aload_n 0, 1) := by decide +kernel
theorem dL_law_1054 : decode cL_law 1054 = .ok (.iload_n 3, 1) := by decide +kernel
theorem dL_law_1055 : decode cL_law 1055 = .ok (.iconst 2, 1) := by decide +kernel
theorem dL_law_1056 : decode cL_law 1056 = .ok (.iadd, 1) := by decide +kernel
theorem dL_law_1057 : decode cL_law 1057 = .ok (.iaload, 1) := by decide +kernel
theorem dL_law_1058 : decode cL_law 1058 = .ok (.aload_n 0, 1) := by decide +kernel
theorem dL_law_1059 : decode cL_law 1059 = .ok (.iload_n 3, 1) := by decide +kernel
theorem dL_law_1060 : decode cL_law 1060 = .ok (.iconst 3, 1) := by decide +kernel
theorem dL_law_1061 : decode cL_law 1061 = .ok (.iadd, 1) := by decide +kernel
theorem dL_law_1062 : decode cL_law 1062 = .ok (.iaload, 1) := by decide +kernel
theorem dL_law_1063 : decode cL_law 1063 = .ok (.aload_n 0, 1) := by decide +kernel
theorem dL_law_1064 : decode cL_law 1064 = .ok (.iload_n 3, 1) := by decide +kernel
theorem dL_law_1065 : decode cL_law 1065 = .ok (.iconst 4, 1) := by decide +kernel
theorem dL_law_1066 : decode cL_law 1066 = .ok (.iadd, 1) := by decide +kernel
theorem dL_law_1067 : decode cL_law 1067 = .ok (.iaload, 1) := by decide +kernel
theorem dL_law_1068 : decode cL_law 1068 = .ok (.aload_n 0, 1) := by decide +kernel
theorem dL_law_1069 : decode cL_law 1069 = .ok (.iload_n 3, 1) := by decide +kernel
theorem dL_law_1070 : decode cL_law 1070 = .ok (.iconst 5, 1) := by decide +kernel
theorem dL_law_1071 : decode cL_law 1071 = .ok (.iadd, 1) := by decide +kernel
theorem dL_law_1072 : decode cL_law 1072 = .ok (.iaload, 1) := by decide +kernel
theorem dL_law_1073 : decode cL_law 1073 = .ok (.invokevirtual 125, 3) := by decide +kernel
theorem dL_law_1076 : decode cL_law 1076 = .ok (.if_icmp .eq 359, 3) := by decide +kernel
theorem dL_law_1079 : decode cL_law 1079 = .ok (.iconst 0, 1) := by decide +kernel
theorem dL_law_1080 : decode cL_law 1080 = .ok (.ireturn, 1) := by decide +kernel
theorem dL_law_1081 : decode cL_law 1081 = .ok (.aload_n 1, 1) := by decide +kernel
theorem dL_law_1082 : decode cL_law 1082 = .ok (.aload_n 0, 1) := by decide +kernel
theorem dL_law_1083 : decode cL_law 1083 = .ok (.iload_n 3, 1) := by decide +kernel
theorem dL_law_1084 : decode cL_law 1084 = .ok (.iconst 1, 1) := by decide +kernel
theorem dL_law_1085 : decode cL_law 1085 = .ok (.iadd, 1) := by decide +kernel
theorem dL_law_1086 : decode cL_law 1086 = .ok (.iaload, 1) := by decide +kernel
theorem dL_law_1087 : decode cL_law 1087 = .ok (.aload_n 0, 1) := by decide +kernel
theorem dL_law_1088 : decode cL_law 1088 = .ok (.iload_n 3, 1) := by decide +kernel
theorem dL_law_1089 : decode cL_law 1089 = .ok (.iconst 2, 1) := by decide +kernel
theorem dL_law_1090 : decode cL_law 1090 = .ok (.iadd, 1) := by decide +kernel
theorem dL_law_1091 : decode cL_law 1091 = .ok (.iaload, 1) := by decide +kernel
theorem dL_law_1092 : decode cL_law 1092 = .ok (.aload_n 0, 1) := by decide +kernel
theorem dL_law_1093 : decode cL_law 1093 = .ok (.iload_n 3, 1) := by decide +kernel
theorem dL_law_1094 : decode cL_law 1094 = .ok (.iconst 3, 1) := by decide +kernel
theorem dL_law_1095 : decode cL_law 1095 = .ok (.iadd, 1) := by decide +kernel
theorem dL_law_1096 : decode cL_law 1096 = .ok (.iaload, 1) := by decide +kernel
theorem dL_law_1097 : decode cL_law 1097 = .ok (.aload_n 0, 1) := by decide +kernel
theorem dL_law_1098 : decode cL_law 1098 = .ok (.iload_n 3, 1) := by decide +kernel
theorem dL_law_1099 : decode cL_law 1099 = .ok (.iconst 4, 1) := by decide +kernel
theorem dL_law_1100 : decode cL_law 1100 = .ok (.iadd, 1) := by decide +kernel
theorem dL_law_1101 : decode cL_law 1101 = .ok (.iaload, 1) := by decide +kernel
theorem dL_law_1102 : decode cL_law 1102 = .ok (.aload_n 0, 1) := by decide +kernel
theorem dL_law_1103 : decode cL_law 1103 = .ok (.iload_n 3, 1) := by decide +kernel
theorem dL_law_1104 : decode cL_law 1104 = .ok (.iconst 5, 1) := by decide +kernel
theorem dL_law_1105 : decode cL_law 1105 = .ok (.iadd, 1) := by decide +kernel
theorem dL_law_1106 : decode cL_law 1106 = .ok (.iaload, 1) := by decide +kernel
theorem dL_law_1107 : decode cL_law 1107 = .ok (.invokevirtual 126, 3) := by decide +kernel
theorem dL_law_1110 : decode cL_law 1110 = .ok (.aload_n 2, 1) := by decide +kernel
theorem dL_law_1111 : decode cL_law 1111 = .ok (.aload_n 0, 1) := by decide +kernel
theorem dL_law_1112 : decode cL_law 1112 = .ok (.iload_n 3, 1) := by decide +kernel
theorem dL_law_1113 : decode cL_law 1113 = .ok (.iconst 1, 1) := by decide +kernel
theorem dL_law_1114 : decode cL_law 1114 = .ok (.iadd, 1) := by decide +kernel
theorem dL_law_1115 : decode cL_law 1115 = .ok (.iaload, 1) := by decide +kernel
theorem dL_law_1116 : decode cL_law 1116 = .ok (.aload_n 0, 1) := by decide +kernel
theorem dL_law_1117 : decode cL_law 1117 = .ok (.iload_n 3, 1) := by decide +kernel
theorem dL_law_1118 : decode cL_law 1118 = .ok (.iconst 2, 1) := by decide +kernel
theorem dL_law_1119 : decode cL_law 1119 = .ok (.iadd, 1) := by decide +kernel
theorem dL_law_1120 : decode cL_law 1120 = .ok (.iaload, 1) := by decide +kernel
theorem dL_law_1121 : decode cL_law 1121 = .ok (.aload_n 0, 1) := by decide +kernel
theorem dL_law_1122 : decode cL_law 1122 = .ok (.iload_n 3, 1) := by decide +kernel
theorem dL_law_1123 : decode cL_law 1123 = .ok (.iconst 3, 1) := by decide +kernel
theorem dL_law_1124 : decode cL_law 1124 = .ok (.iadd, 1) := by decide +kernel
theorem dL_law_1125 : decode cL_law 1125 = .ok (.iaload, 1) := by decide +kernel
theorem dL_law_1126 : decode cL_law 1126 = .ok (.aload_n 0, 1) := by decide +kernel
theorem dL_law_1127 : decode cL_law 1127 = .ok (.iload_n 3, 1) := by decide +kernel
theorem dL_law_1128 : decode cL_law 1128 = .ok (.iconst 4, 1) := by decide +kernel
theorem dL_law_1129 : decode cL_law 1129 = .ok (.iadd, 1) := by decide +kernel
theorem dL_law_1130 : decode cL_law 1130 = .ok (.iaload, 1) := by decide +kernel
theorem dL_law_1131 : decode cL_law 1131 = .ok (.aload_n 0, 1) := by decide +kernel
theorem dL_law_1132 : decode cL_law 1132 = .ok (.iload_n 3, 1) := by decide +kernel
theorem dL_law_1133 : decode cL_law 1133 = .ok (.iconst 5, 1) := by decide +kernel
theorem dL_law_1134 : decode cL_law 1134 = .ok (.iadd, 1) := by decide +kernel
theorem dL_law_1135 : decode cL_law 1135 = .ok (.iaload, 1) := by decide +kernel
theorem dL_law_1136 : decode cL_law 1136 = .ok (.invokevirtual 129, 3) := by decide +kernel
theorem dL_law_1139 : decode cL_law 1139 = .ok (.if_icmp .eq 296, 3) := by decide +kernel
theorem dL_law_1142 : decode cL_law 1142 = .ok (.iconst 0, 1) := by decide +kernel
theorem dL_law_1143 : decode cL_law 1143 = .ok (.ireturn, 1) := by decide +kernel
theorem dL_law_1144 : decode cL_law 1144 = .ok (.aload_n 1, 1) := by decide +kernel
theorem dL_law_1145 : decode cL_law 1145 = .ok (.aload_n 0, 1) := by decide +kernel
theorem dL_law_1146 : decode cL_law 1146 = .ok (.iload_n 3, 1) := by decide +kernel
theorem dL_law_1147 : decode cL_law 1147 = .ok (.iconst 1, 1) := by decide +kernel
theorem dL_law_1148 : decode cL_law 1148 = .ok (.iadd, 1) := by decide +kernel
theorem dL_law_1149 : decode cL_law 1149 = .ok (.iaload, 1) := by decide +kernel
theorem dL_law_1150 : decode cL_law 1150 = .ok (.aload_n 0, 1) := by decide +kernel
theorem dL_law_1151 : decode cL_law 1151 = .ok (.iload_n 3, 1) := by decide +kernel
theorem dL_law_1152 : decode cL_law 1152 = .ok (.iconst 2, 1) := by decide +kernel
theorem dL_law_1153 : decode cL_law 1153 = .ok (.iadd, 1) := by decide +kernel
theorem dL_law_1154 : decode cL_law 1154 = .ok (.iaload, 1) := by decide +kernel
theorem dL_law_1155 : decode cL_law 1155 = .ok (.aload_n 0, 1) := by decide +kernel
theorem dL_law_1156 : decode cL_law 1156 = .ok (.iload_n 3, 1) := by decide +kernel
theorem dL_law_1157 : decode cL_law 1157 = .ok (.iconst 3, 1) := by decide +kernel
theorem dL_law_1158 : decode cL_law 1158 = .ok (.iadd, 1) := by decide +kernel
theorem dL_law_1159 : decode cL_law 1159 = .ok (.iaload, 1) := by decide +kernel
theorem dL_law_1160 : decode cL_law 1160 = .ok (.aload_n 0, 1) := by decide +kernel
theorem dL_law_1161 : decode cL_law 1161 = .ok (.iload_n 3, 1) := by decide +kernel
theorem dL_law_1162 : decode cL_law 1162 = .ok (.iconst 4, 1) := by decide +kernel
theorem dL_law_1163 : decode cL_law 1163 = .ok (.iadd, 1) := by decide +kernel
theorem dL_law_1164 : decode cL_law 1164 = .ok (.iaload, 1) := by decide +kernel
theorem dL_law_1165 : decode cL_law 1165 = .ok (.invokevirtual 130, 3) := by decide +kernel
theorem dL_law_1168 : decode cL_law 1168 = .ok (.aload_n 2, 1) := by decide +kernel
theorem dL_law_1169 : decode cL_law 1169 = .ok (.aload_n 0, 1) := by decide +kernel
theorem dL_law_1170 : decode cL_law 1170 = .ok (.iload_n 3, 1) := by decide +kernel
theorem dL_law_1171 : decode cL_law 1171 = .ok (.iconst 1, 1) := by decide +kernel
theorem dL_law_1172 : decode cL_law 1172 = .ok (.iadd, 1) := by decide +kernel
theorem dL_law_1173 : decode cL_law 1173 = .ok (.iaload, 1) := by decide +kernel
theorem dL_law_1174 : decode cL_law 1174 = .ok (.aload_n 0, 1) := by decide +kernel
theorem dL_law_1175 : decode cL_law 1175 = .ok (.iload_n 3, 1) := by decide +kernel
theorem dL_law_1176 : decode cL_law 1176 = .ok (.iconst 2, 1) := by decide +kernel
theorem dL_law_1177 : decode cL_law 1177 = .ok (.iadd, 1) := by decide +kernel
theorem dL_law_1178 : decode cL_law 1178 = .ok (.iaload, 1) := by decide +kernel
theorem dL_law_1179 : decode cL_law 1179 = .ok (.aload_n 0, 1) := by decide +kernel
theorem dL_law_1180 : decode cL_law 1180 = .ok (.iload_n 3, 1) := by decide +kernel
theorem dL_law_1181 : decode cL_law 1181 = .ok (.iconst 3, 1) := by decide +kernel
theorem dL_law_1182 : decode cL_law 1182 = .ok (.iadd, 1) := by decide +kernel
theorem dL_law_1183 : decode cL_law 1183 = .ok (.iaload, 1) := by decide +kernel
theorem dL_law_1184 : decode cL_law 1184 = .ok (.aload_n 0, 1) := by decide +kernel
theorem dL_law_1185 : decode cL_law 1185 = .ok (.iload_n 3, 1) := by decide +kernel
theorem dL_law_1186 : decode cL_law 1186 = .ok (.iconst 4, 1) := by decide +kernel
theorem dL_law_1187 : decode cL_law 1187 = .ok (.iadd, 1) := by decide +kernel
theorem dL_law_1188 : decode cL_law 1188 = .ok (.iaload, 1) := by decide +kernel
theorem dL_law_1189 : decode cL_law 1189 = .ok (.invokevirtual 134, 3) := by decide +kernel
theorem dL_law_1192 : decode cL_law 1192 = .ok (.lcmp, 1) := by decide +kernel
theorem dL_law_1193 : decode cL_law 1193 = .ok (.ifCond .eq 242, 3) := by decide +kernel
theorem dL_law_1196 : decode cL_law 1196 = .ok (.iconst 0, 1) := by decide +kernel
theorem dL_law_1197 : decode cL_law 1197 = .ok (.ireturn, 1) := by decide +kernel
theorem dL_law_1198 : decode cL_law 1198 = .ok (.aload_n 1, 1) := by decide +kernel
theorem dL_law_1199 : decode cL_law 1199 = .ok (.aload_n 0, 1) := by decide +kernel
theorem dL_law_1200 : decode cL_law 1200 = .ok (.iload_n 3, 1) := by decide +kernel
theorem dL_law_1201 : decode cL_law 1201 = .ok (.iconst 1, 1) := by decide +kernel
theorem dL_law_1202 : decode cL_law 1202 = .ok (.iadd, 1) := by decide +kernel
theorem dL_law_1203 : decode cL_law 1203 = .ok (.iaload, 1) := by decide +kernel
theorem dL_law_1204 : decode cL_law 1204 = .ok (.aload_n 0, 1) := by decide +kernel
theorem dL_law_1205 : decode cL_law 1205 = .ok (.iload_n 3, 1) := by decide +kernel
theorem dL_law_1206 : decode cL_law 1206 = .ok (.iconst 2, 1) := by decide +kernel
theorem dL_law_1207 : decode cL_law 1207 = .ok (.iadd, 1) := by decide +kernel
theorem dL_law_1208 : decode cL_law 1208 = .ok (.iaload, 1) := by decide +kernel
theorem dL_law_1209 : decode cL_law 1209 = .ok (.aload_n 0, 1) := by decide +kernel
theorem dL_law_1210 : decode cL_law 1210 = .ok (.iload_n 3, 1) := by decide +kernel
theorem dL_law_1211 : decode cL_law 1211 = .ok (.iconst 3, 1) := by decide +kernel
theorem dL_law_1212 : decode cL_law 1212 = .ok (.iadd, 1) := by decide +kernel
theorem dL_law_1213 : decode cL_law 1213 = .ok (.iaload, 1) := by decide +kernel
theorem dL_law_1214 : decode cL_law 1214 = .ok (.invokevirtual 135, 3) := by decide +kernel
theorem dL_law_1217 : decode cL_law 1217 = .ok (.aload_n 2, 1) := by decide +kernel
theorem dL_law_1218 : decode cL_law 1218 = .ok (.aload_n 0, 1) := by decide +kernel
theorem dL_law_1219 : decode cL_law 1219 = .ok (.iload_n 3, 1) := by decide +kernel
theorem dL_law_1220 : decode cL_law 1220 = .ok (.iconst 1, 1) := by decide +kernel
theorem dL_law_1221 : decode cL_law 1221 = .ok (.iadd, 1) := by decide +kernel
theorem dL_law_1222 : decode cL_law 1222 = .ok (.iaload, 1) := by decide +kernel
theorem dL_law_1223 : decode cL_law 1223 = .ok (.aload_n 0, 1) := by decide +kernel
theorem dL_law_1224 : decode cL_law 1224 = .ok (.iload_n 3, 1) := by decide +kernel
theorem dL_law_1225 : decode cL_law 1225 = .ok (.iconst 2, 1) := by decide +kernel
theorem dL_law_1226 : decode cL_law 1226 = .ok (.iadd, 1) := by decide +kernel
theorem dL_law_1227 : decode cL_law 1227 = .ok (.iaload, 1) := by decide +kernel
theorem dL_law_1228 : decode cL_law 1228 = .ok (.aload_n 0, 1) := by decide +kernel
theorem dL_law_1229 : decode cL_law 1229 = .ok (.iload_n 3, 1) := by decide +kernel
theorem dL_law_1230 : decode cL_law 1230 = .ok (.iconst 3, 1) := by decide +kernel
theorem dL_law_1231 : decode cL_law 1231 = .ok (.iadd, 1) := by decide +kernel
theorem dL_law_1232 : decode cL_law 1232 = .ok (.iaload, 1) := by decide +kernel
theorem dL_law_1233 : decode cL_law 1233 = .ok (.invokevirtual 138, 3) := by decide +kernel
theorem dL_law_1236 : decode cL_law 1236 = .ok (.if_icmp .eq 199, 3) := by decide +kernel
theorem dL_law_1239 : decode cL_law 1239 = .ok (.iconst 0, 1) := by decide +kernel
theorem dL_law_1240 : decode cL_law 1240 = .ok (.ireturn, 1) := by decide +kernel
theorem dL_law_1241 : decode cL_law 1241 = .ok (.aload_n 1, 1) := by decide +kernel
theorem dL_law_1242 : decode cL_law 1242 = .ok (.aload_n 0, 1) := by decide +kernel
theorem dL_law_1243 : decode cL_law 1243 = .ok (.iload_n 3, 1) := by decide +kernel
theorem dL_law_1244 : decode cL_law 1244 = .ok (.iconst 1, 1) := by decide +kernel
theorem dL_law_1245 : decode cL_law 1245 = .ok (.iadd, 1) := by decide +kernel
theorem dL_law_1246 : decode cL_law 1246 = .ok (.iaload, 1) := by decide +kernel
theorem dL_law_1247 : decode cL_law 1247 = .ok (.invokevirtual 139, 3) := by decide +kernel
theorem dL_law_1250 : decode cL_law 1250 = .ok (.aload_n 2, 1) := by decide +kernel
theorem dL_law_1251 : decode cL_law 1251 = .ok (.aload_n 0, 1) := by decide +kernel
theorem dL_law_1252 : decode cL_law 1252 = .ok (.iload_n 3, 1) := by decide +kernel
theorem dL_law_1253 : decode cL_law 1253 = .ok (.iconst 1, 1) := by decide +kernel
theorem dL_law_1254 : decode cL_law 1254 = .ok (.iadd, 1) := by decide +kernel
theorem dL_law_1255 : decode cL_law 1255 = .ok (.iaload, 1) := by decide +kernel
theorem dL_law_1256 : decode cL_law 1256 = .ok (.invokevirtual 142, 3) := by decide +kernel
theorem dL_law_1259 : decode cL_law 1259 = .ok (.if_icmp .eq 176, 3) := by decide +kernel
theorem dL_law_1262 : decode cL_law 1262 = .ok (.iconst 0, 1) := by decide +kernel
theorem dL_law_1263 : decode cL_law 1263 = .ok (.ireturn, 1) := by decide +kernel
theorem dL_law_1264 : decode cL_law 1264 = .ok (.aload_n 1, 1) := by decide +kernel
theorem dL_law_1265 : decode cL_law 1265 = .ok (.aload_n 0, 1) := by decide +kernel
theorem dL_law_1266 : decode cL_law 1266 = .ok (.iload_n 3, 1) := by decide +kernel
theorem dL_law_1267 : decode cL_law 1267 = .ok (.iconst 1, 1) := by decide +kernel
theorem dL_law_1268 : decode cL_law 1268 = .ok (.iadd, 1) := by decide +kernel
theorem dL_law_1269 : decode cL_law 1269 = .ok (.iaload, 1) := by decide +kernel
theorem dL_law_1270 : decode cL_law 1270 = .ok (.invokevirtual 143, 3) := by decide +kernel
theorem dL_law_1273 : decode cL_law 1273 = .ok (.aload_n 2, 1) := by decide +kernel
theorem dL_law_1274 : decode cL_law 1274 = .ok (.aload_n 0, 1) := by decide +kernel
theorem dL_law_1275 : decode cL_law 1275 = .ok (.iload_n 3, 1) := by decide +kernel
theorem dL_law_1276 : decode cL_law 1276 = .ok (.iconst 1, 1) := by decide +kernel
theorem dL_law_1277 : decode cL_law 1277 = .ok (.iadd, 1) := by decide +kernel
theorem dL_law_1278 : decode cL_law 1278 = .ok (.iaload, 1) := by decide +kernel
theorem dL_law_1279 : decode cL_law 1279 = .ok (.invokevirtual 146, 3) := by decide +kernel
theorem dL_law_1282 : decode cL_law 1282 = .ok (.if_icmp .eq 153, 3) := by decide +kernel
theorem dL_law_1285 : decode cL_law 1285 = .ok (.iconst 0, 1) := by decide +kernel
theorem dL_law_1286 : decode cL_law 1286 = .ok (.ireturn, 1) := by decide +kernel
theorem dL_law_1287 : decode cL_law 1287 = .ok (.aload_n 1, 1) := by decide +kernel
theorem dL_law_1288 : decode cL_law 1288 = .ok (.aload_n 0, 1) := by decide +kernel
theorem dL_law_1289 : decode cL_law 1289 = .ok (.iload_n 3, 1) := by decide +kernel
theorem dL_law_1290 : decode cL_law 1290 = .ok (.iconst 1, 1) := by decide +kernel
theorem dL_law_1291 : decode cL_law 1291 = .ok (.iadd, 1) := by decide +kernel
theorem dL_law_1292 : decode cL_law 1292 = .ok (.iaload, 1) := by decide +kernel
theorem dL_law_1293 : decode cL_law 1293 = .ok (.invokevirtual 147, 3) := by decide +kernel
theorem dL_law_1296 : decode cL_law 1296 = .ok (.aload_n 2, 1) := by decide +kernel
theorem dL_law_1297 : decode cL_law 1297 = .ok (.aload_n 0, 1) := by decide +kernel
theorem dL_law_1298 : decode cL_law 1298 = .ok (.iload_n 3, 1) := by decide +kernel
theorem dL_law_1299 : decode cL_law 1299 = .ok (.iconst 1, 1) := by decide +kernel
theorem dL_law_1300 : decode cL_law 1300 = .ok (.iadd, 1) := by decide +kernel
theorem dL_law_1301 : decode cL_law 1301 = .ok (.iaload, 1) := by decide +kernel
theorem dL_law_1302 : decode cL_law 1302 = .ok (.invokevirtual 150, 3) := by decide +kernel
theorem dL_law_1305 : decode cL_law 1305 = .ok (.if_icmp .eq 130, 3) := by decide +kernel
theorem dL_law_1308 : decode cL_law 1308 = .ok (.iconst 0, 1) := by decide +kernel
theorem dL_law_1309 : decode cL_law 1309 = .ok (.ireturn, 1) := by decide +kernel
theorem dL_law_1310 : decode cL_law 1310 = .ok (.aload_n 1, 1) := by decide +kernel
theorem dL_law_1311 : decode cL_law 1311 = .ok (.aload_n 0, 1) := by decide +kernel
theorem dL_law_1312 : decode cL_law 1312 = .ok (.iload_n 3, 1) := by decide +kernel
theorem dL_law_1313 : decode cL_law 1313 = .ok (.iconst 1, 1) := by decide +kernel
theorem dL_law_1314 : decode cL_law 1314 = .ok (.iadd, 1) := by decide +kernel
theorem dL_law_1315 : decode cL_law 1315 = .ok (.iaload, 1) := by decide +kernel
theorem dL_law_1316 : decode cL_law 1316 = .ok (.aload_n 0, 1) := by decide +kernel
theorem dL_law_1317 : decode cL_law 1317 = .ok (.iload_n 3, 1) := by decide +kernel
theorem dL_law_1318 : decode cL_law 1318 = .ok (.iconst 2, 1) := by decide +kernel
theorem dL_law_1319 : decode cL_law 1319 = .ok (.iadd, 1) := by decide +kernel
theorem dL_law_1320 : decode cL_law 1320 = .ok (.iaload, 1) := by decide +kernel
theorem dL_law_1321 : decode cL_law 1321 = .ok (.invokevirtual 151, 3) := by decide +kernel
theorem dL_law_1324 : decode cL_law 1324 = .ok (.aload_n 2, 1) := by decide +kernel
theorem dL_law_1325 : decode cL_law 1325 = .ok (.aload_n 0, 1) := by decide +kernel
theorem dL_law_1326 : decode cL_law 1326 = .ok (.iload_n 3, 1) := by decide +kernel
theorem dL_law_1327 : decode cL_law 1327 = .ok (.iconst 1, 1) := by decide +kernel
theorem dL_law_1328 : decode cL_law 1328 = .ok (.iadd, 1) := by decide +kernel
theorem dL_law_1329 : decode cL_law 1329 = .ok (.iaload, 1) := by decide +kernel
theorem dL_law_1330 : decode cL_law 1330 = .ok (.aload_n 0, 1) := by decide +kernel
theorem dL_law_1331 : decode cL_law 1331 = .ok (.iload_n 3, 1) := by decide +kernel
theorem dL_law_1332 : decode cL_law 1332 = .ok (.iconst 2, 1) := by decide +kernel
theorem dL_law_1333 : decode cL_law 1333 = .ok (.iadd, 1) := by decide +kernel
theorem dL_law_1334 : decode cL_law 1334 = .ok (.iaload, 1) := by decide +kernel
theorem dL_law_1335 : decode cL_law 1335 = .ok (.invokevirtual 154, 3) := by decide +kernel
theorem dL_law_1338 : decode cL_law 1338 = .ok (.if_icmp .eq 97, 3) := by decide +kernel
theorem dL_law_1341 : decode cL_law 1341 = .ok (.iconst 0, 1) := by decide +kernel
theorem dL_law_1342 : decode cL_law 1342 = .ok (.ireturn, 1) := by decide +kernel
theorem dL_law_1343 : decode cL_law 1343 = .ok (.aload_n 1, 1) := by decide +kernel
theorem dL_law_1344 : decode cL_law 1344 = .ok (.aload_n 0, 1) := by decide +kernel
theorem dL_law_1345 : decode cL_law 1345 = .ok (.iload_n 3, 1) := by decide +kernel
theorem dL_law_1346 : decode cL_law 1346 = .ok (.iconst 1, 1) := by decide +kernel
theorem dL_law_1347 : decode cL_law 1347 = .ok (.iadd, 1) := by decide +kernel
theorem dL_law_1348 : decode cL_law 1348 = .ok (.iaload, 1) := by decide +kernel
theorem dL_law_1349 : decode cL_law 1349 = .ok (.aload_n 0, 1) := by decide +kernel
theorem dL_law_1350 : decode cL_law 1350 = .ok (.iload_n 3, 1) := by decide +kernel
theorem dL_law_1351 : decode cL_law 1351 = .ok (.iconst 2, 1) := by decide +kernel
theorem dL_law_1352 : decode cL_law 1352 = .ok (.iadd, 1) := by decide +kernel
theorem dL_law_1353 : decode cL_law 1353 = .ok (.iaload, 1) := by decide +kernel
theorem dL_law_1354 : decode cL_law 1354 = .ok (.invokevirtual 155, 3) := by decide +kernel
theorem dL_law_1357 : decode cL_law 1357 = .ok (.aload_n 2, 1) := by decide +kernel
theorem dL_law_1358 : decode cL_law 1358 = .ok (.aload_n 0, 1) := by decide +kernel
theorem dL_law_1359 : decode cL_law 1359 = .ok (.iload_n 3, 1) := by decide +kernel
theorem dL_law_1360 : decode cL_law 1360 = .ok (.iconst 1, 1) := by decide +kernel
theorem dL_law_1361 : decode cL_law 1361 = .ok (.iadd, 1) := by decide +kernel
theorem dL_law_1362 : decode cL_law 1362 = .ok (.iaload, 1) := by decide +kernel
theorem dL_law_1363 : decode cL_law 1363 = .ok (.aload_n 0, 1) := by decide +kernel
theorem dL_law_1364 : decode cL_law 1364 = .ok (.iload_n 3, 1) := by decide +kernel
theorem dL_law_1365 : decode cL_law 1365 = .ok (.iconst 2, 1) := by decide +kernel
theorem dL_law_1366 : decode cL_law 1366 = .ok (.iadd, 1) := by decide +kernel
theorem dL_law_1367 : decode cL_law 1367 = .ok (.iaload, 1) := by decide +kernel
theorem dL_law_1368 : decode cL_law 1368 = .ok (.invokevirtual 158, 3) := by decide +kernel
theorem dL_law_1371 : decode cL_law 1371 = .ok (.if_icmp .eq 64, 3) := by decide +kernel
theorem dL_law_1374 : decode cL_law 1374 = .ok (.iconst 0, 1) := by decide +kernel
theorem dL_law_1375 : decode cL_law 1375 = .ok (.ireturn, 1) := by decide +kernel
theorem dL_law_1376 : decode cL_law 1376 = .ok (.aload_n 1, 1) := by decide +kernel
theorem dL_law_1377 : decode cL_law 1377 = .ok (.aload_n 0, 1) := by decide +kernel
theorem dL_law_1378 : decode cL_law 1378 = .ok (.iload_n 3, 1) := by decide +kernel
theorem dL_law_1379 : decode cL_law 1379 = .ok (.iconst 1, 1) := by decide +kernel
theorem dL_law_1380 : decode cL_law 1380 = .ok (.iadd, 1) := by decide +kernel
theorem dL_law_1381 : decode cL_law 1381 = .ok (.iaload, 1) := by decide +kernel
theorem dL_law_1382 : decode cL_law 1382 = .ok (.invokevirtual 159, 3) := by decide +kernel
theorem dL_law_1385 : decode cL_law 1385 = .ok (.aload_n 2, 1) := by decide +kernel
theorem dL_law_1386 : decode cL_law 1386 = .ok (.aload_n 0, 1) := by decide +kernel
theorem dL_law_1387 : decode cL_law 1387 = .ok (.iload_n 3, 1) := by decide +kernel
theorem dL_law_1388 : decode cL_law 1388 = .ok (.iconst 1, 1) := by decide +kernel
theorem dL_law_1389 : decode cL_law 1389 = .ok (.iadd, 1) := by decide +kernel
theorem dL_law_1390 : decode cL_law 1390 = .ok (.iaload, 1) := by decide +kernel
theorem dL_law_1391 : decode cL_law 1391 = .ok (.invokevirtual 162, 3) := by decide +kernel
theorem dL_law_1394 : decode cL_law 1394 = .ok (.if_icmp .eq 41, 3) := by decide +kernel
theorem dL_law_1397 : decode cL_law 1397 = .ok (.iconst 0, 1) := by decide +kernel
theorem dL_law_1398 : decode cL_law 1398 = .ok (.ireturn, 1) := by decide +kernel
theorem dL_law_1399 : decode cL_law 1399 = .ok (.aload_n 1, 1) := by decide +kernel
theorem dL_law_1400 : decode cL_law 1400 = .ok (.aload_n 0, 1) := by decide +kernel
theorem dL_law_1401 : decode cL_law 1401 = .ok (.iload_n 3, 1) := by decide +kernel
theorem dL_law_1402 : decode cL_law 1402 = .ok (.iconst 1, 1) := by decide +kernel
theorem dL_law_1403 : decode cL_law 1403 = .ok (.iadd, 1) := by decide +kernel
theorem dL_law_1404 : decode cL_law 1404 = .ok (.iaload, 1) := by decide +kernel
theorem dL_law_1405 : decode cL_law 1405 = .ok (.invokevirtual 163, 3) := by decide +kernel
theorem dL_law_1408 : decode cL_law 1408 = .ok (.aload_n 2, 1) := by decide +kernel
theorem dL_law_1409 : decode cL_law 1409 = .ok (.aload_n 0, 1) := by decide +kernel
theorem dL_law_1410 : decode cL_law 1410 = .ok (.iload_n 3, 1) := by decide +kernel
theorem dL_law_1411 : decode cL_law 1411 = .ok (.iconst 1, 1) := by decide +kernel
theorem dL_law_1412 : decode cL_law 1412 = .ok (.iadd, 1) := by decide +kernel
theorem dL_law_1413 : decode cL_law 1413 = .ok (.iaload, 1) := by decide +kernel
theorem dL_law_1414 : decode cL_law 1414 = .ok (.invokevirtual 166, 3) := by decide +kernel
theorem dL_law_1417 : decode cL_law 1417 = .ok (.if_icmp .eq 18, 3) := by decide +kernel
theorem dL_law_1420 : decode cL_law 1420 = .ok (.iconst 0, 1) := by decide +kernel
theorem dL_law_1421 : decode cL_law 1421 = .ok (.ireturn, 1) := by decide +kernel
theorem dL_law_1422 : decode cL_law 1422 = .ok (.aload_n 1, 1) := by decide +kernel
theorem dL_law_1423 : decode cL_law 1423 = .ok (.invokevirtual 167, 3) := by decide +kernel
theorem dL_law_1426 : decode cL_law 1426 = .ok (.aload_n 2, 1) := by decide +kernel
theorem dL_law_1427 : decode cL_law 1427 = .ok (.invokevirtual 170, 3) := by decide +kernel
theorem dL_law_1430 : decode cL_law 1430 = .ok (.if_icmp .eq 5, 3) := by decide +kernel
theorem dL_law_1433 : decode cL_law 1433 = .ok (.iconst 0, 1) := by decide +kernel
theorem dL_law_1434 : decode cL_law 1434 = .ok (.ireturn, 1) := by decide +kernel
theorem dL_law_1435 : decode cL_law 1435 = .ok (.iinc 3 6, 3) := by decide +kernel
theorem dL_law_1438 : decode cL_law 1438 = .ok (.goto (-1420), 3) := by decide +kernel
theorem dL_law_1441 : decode cL_law 1441 = .ok (.iconst 1, 1) := by decide +kernel
theorem dL_law_1442 : decode cL_law 1442 = .ok (.ireturn, 1) := by decide +kernel
end
section
/-! ===== the state: one map of ints, by kind, number, place; the cells of the whole system by their keys ===== -/
abbrev GS : Type := Nat → Nat → Nat → Int32
abbrev Ky : Type := Nat × Nat × Nat
/-- one place of the state becomes v -/
def g3 (g : GS) (c j i : Nat) (v : Int32) : GS := va_up g c (va_up (g c) j (va_up (g c j) i v))
/-- one row of the state becomes f -/
def g2 (g : GS) (c j : Nat) (f : Nat → Int32) : GS := va_up g c (va_up (g c) j f)
def lenM (b : Nat) : Nat := match b with
  | 2 => 8 | 3 => 8 | 4 => 320 | 5 => 53 | 6 => 53 | 7 => 53 | 8 => 6 | 9 => 1272 | 11 => 100 | 20 => 4 | 22 => 106 | 23 => 16 | _ => 0
/-- the row that 'seen' tells: 0 none -/
def seenRow (ad : Ky → Nat) (x : Int32) : Option Nat := if x = 0 then none else some (ad (5, x.toNatClampNeg - 1, 0))
def cellO (ad : Ky → Nat) (g : GS) : Nat → Nat → Nat → List Value
  | 0, _, _ => [.ref (ad (12, 0, 0)), .int (g 6 0 0), .int (g 6 0 1)]
  | 1, _, _ => [.ref (ad (9, 8, 0)), .int (g 7 0 0)]
  | 2, _, _ => [.ref (ad (4, 0, 0)), .ref (ad (4, 1, 0)), .int (g 5 0 0), va_rf (seenRow ad (g 5 0 1)), .int (g 5 0 2), .int (g 5 0 3), .int (g 5 0 4), .int (g 5 0 5), .int (g 5 0 6), .int (g 5 0 7)]
  | 3, r, i => [.int (g 13 r (7 * i)), .int (g 13 r (7 * i + 1)), .int (g 13 r (7 * i + 2)), .int (g 13 r (7 * i + 3)), .int (g 13 r (7 * i + 4)), .int (g 13 r (7 * i + 5)), .int (g 13 r (7 * i + 6))]
  | 4, r, _ => [.int (g 0 r 0), .int (g 0 r 1), .int (g 0 r 2), .int (g 0 r 3), .int (g 0 r 4), .ref (ad (9, 0, r)), .ref (ad (11, r, 0))]
  | 5, j, _ => [.int (g 1 j 0), .int (g 1 j 1), .ref (ad (9, 2, j))]
  | 6, _, _ => [.ref (ad (9, 4, 0)), .int (g 3 0 0), .int (g 3 0 1), .int (g 3 0 2)]
  | 7, _, _ => [.ref (ad (13, 0, 0)), .ref (ad (6, 0, 0)), .ref (ad (2, 0, 0)), .ref (ad (4, 0, 0)), .ref (ad (4, 1, 0)), .ref (ad (0, 0, 0)), .ref (ad (12, 1, 0)), .ref (ad (1, 0, 0)), .int (g 9 0 0), .int (g 9 0 1)]
  | _, _, _ => [.int (g 10 0 0), .int (g 10 0 1), .ref (ad (9, 11, 2)), .ref (ad (9, 11, 3)), .ref (ad (9, 11, 4)), .ref (ad (9, 11, 5)), .ref (ad (9, 11, 6)), .ref (ad (9, 11, 7)), .ref (ad (9, 11, 8)), .ref (ad (9, 11, 9)), .int (g 10 0 10), .ref (ad (9, 11, 11)), .int (g 10 0 12), .int (g 10 0 13), .int (g 10 0 14), .int (g 10 0 15), .int (g 10 0 16), .int (g 10 0 17), .int (g 10 0 18), .int (g 10 0 19), .ref (ad (9, 11, 20)), .ref (ad (10, 11, 21)), .ref (ad (9, 11, 22)), .ref (ad (9, 11, 23)), .int (g 10 0 24)]
/-- the int arrays: how long, what they hold -/
def arrI (g : GS) : Nat → Nat → Nat × (Nat → Int32)
  | 0, r => (6, g 12 r)
  | 2, j => (40, g 2 j)
  | 4, _ => (100, g 4 0)
  | 8, _ => (16, g 8 0)
  | _, b => (lenM b, g 11 b)
def arrR (ad : Ky → Nat) : Nat → Nat → Nat → Nat × (Nat → Option Nat)
  | 11, r, _ => (6, fun i => some (ad (3, r, i)))
  | 12, 0, _ => (24, fun i => some (ad (4, 2 + i, 0)))
  | 12, _, _ => (2, fun i => some (ad (4, 26 + i, 0)))
  | _, _, _ => (8, fun i => some (ad (5, i, 0)))
def cellW (ad : Ky → Nat) (cy : Nat → ClassId) (g : GS) (k : Ky) : va_E :=
  if k.1 < 9 then .inr (k.1, cellO ad g k.1 k.2.1 k.2.2)
  else if k.1 = 9 then .inl (cy 0, (arrI g k.2.1 k.2.2).1, .inl (arrI g k.2.1 k.2.2).2)
  else if k.1 = 10 then .inl (cy 1, 2, .inl (g 11 21))
  else .inl (cy (k.1 - 9), (arrR ad k.1 k.2.1 k.2.2).1, .inr (.inr (.inr (.inr (arrR ad k.1 k.2.1 k.2.2).2))))
def keys : List Ky := [(0, 0, 0), (1, 0, 0), (2, 0, 0), (6, 0, 0), (7, 0, 0), (8, 0, 0), (9, 4, 0), (9, 8, 0), (10, 11, 21), (12, 0, 0), (12, 1, 0), (13, 0, 0)]
  ++ ([2, 3, 4, 5, 6, 7, 8, 9, 11, 20, 22, 23].map fun b => (9, 11, b))
  ++ ((List.range 8).map fun j => (5, j, 0)) ++ ((List.range 8).map fun j => (9, 2, j))
  ++ ((List.range 28).map fun r => (4, r, 0)) ++ ((List.range 28).map fun r => (9, 0, r)) ++ ((List.range 28).map fun r => (11, r, 0))
  ++ ((List.range 28).flatMap fun r => (List.range 6).map fun i => (3, r, i))
def Wd (ad : Ky → Nat) (cy : Nat → ClassId) (g : GS) : va_W := keys.map fun k => (ad k, cellW ad cy g k)
theorem keys_nd : keys.Nodup := by decide +kernel
theorem k_paper {r i : Nat} (hr : r < 28) (hi : i < 6) : ((3, r, i) : Ky) ∈ keys := by
  refine List.mem_append_right _ (List.mem_flatMap.mpr ⟨r, List.mem_range.mpr hr, List.mem_map.mpr ⟨i, List.mem_range.mpr hi, rfl⟩⟩)
theorem k_papers {r : Nat} (hr : r < 28) : ((11, r, 0) : Ky) ∈ keys := List.mem_append_left _ (List.mem_append_right _ (List.mem_map.mpr ⟨r, List.mem_range.mpr hr, rfl⟩))
theorem k_forces {r : Nat} (hr : r < 28) : ((9, 0, r) : Ky) ∈ keys := List.mem_append_left _ (List.mem_append_left _ (List.mem_append_right _ (List.mem_map.mpr ⟨r, List.mem_range.mpr hr, rfl⟩)))
theorem k_roof {r : Nat} (hr : r < 28) : ((4, r, 0) : Ky) ∈ keys := List.mem_append_left _ (List.mem_append_left _ (List.mem_append_left _ (List.mem_append_right _ (List.mem_map.mpr ⟨r, List.mem_range.mpr hr, rfl⟩))))
theorem k_items {j : Nat} (hj : j < 8) : ((9, 2, j) : Ky) ∈ keys := List.mem_append_left _ (List.mem_append_left _ (List.mem_append_left _ (List.mem_append_left _ (List.mem_append_right _ (List.mem_map.mpr ⟨j, List.mem_range.mpr hj, rfl⟩)))))
theorem k_row {j : Nat} (hj : j < 8) : ((5, j, 0) : Ky) ∈ keys := List.mem_append_left _ (List.mem_append_left _ (List.mem_append_left _ (List.mem_append_left _ (List.mem_append_left _ (List.mem_append_right _ (List.mem_map.mpr ⟨j, List.mem_range.mpr hj, rfl⟩))))))
/-- the arrays of references hold nothing but keys -/
theorem keys_kind {a b c : Nat} (h : ((a, b, c) : Ky) ∈ keys) : a < 14 := by
  have : ∀ k ∈ keys, k.1 < 14 := by decide +kernel
  exact this _ h
def Inj (ad : Ky → Nat) : Prop := ∀ k ∈ keys, ∀ k' ∈ keys, ad k = ad k' → k = k'
def tysA (cy : Nat → ClassId) : List (ClassId × FieldType) := [(cy 0, .int), (cy 1, .boolean), (cy 2, .object "KiteTrays$Paper"), (cy 3, .object "KiteTrays$Roof"), (cy 4, .object "KiteTrays$Row")]
/-- what a method may change: the system's cells, and what is new -/
def AA (ad : Ky → Nat) (sz : Nat) : Nat → Prop := fun q => (∃ k ∈ keys, q = ad k) ∨ sz ≤ q
theorem Wd_at (ad : Ky → Nat) (cy : Nat → ClassId) (g : GS) {k : Ky} (hk : k ∈ keys) : ∃ q0 : Nat, keys[q0]? = some k ∧ (Wd ad cy g)[q0]? = some (ad k, cellW ad cy g k) := by
  obtain ⟨q0, h⟩ := List.getElem?_of_mem hk
  exact ⟨q0, h, by simp [Wd, List.getElem?_map, h]⟩
theorem Wd_inv {ad : Ky → Nat} {cy : Nat → ClassId} {g : GS} {n : Nat} {q : Nat × va_E} (h : (Wd ad cy g)[n]? = some q) : ∃ k, keys[n]? = some k ∧ q = (ad k, cellW ad cy g k) := by
  simp only [Wd, List.getElem?_map] at h
  cases hk : keys[n]? with
  | none => rw [hk] at h; cases h
  | some k => rw [hk] at h; cases h; exact ⟨k, rfl, rfl⟩
theorem Wd_D {ad : Ky → Nat} (hI : Inj ad) (cy : Nat → ClassId) (g : GS) (sz : Nat) : va_D (AA ad sz) (Wd ad cy g) := by
  refine ⟨fun i j p q hp hq hpq => ?_, fun n q h => ?_⟩
  · obtain ⟨k, hk, rfl⟩ := Wd_inv hp
    obtain ⟨k', hk', rfl⟩ := Wd_inv hq
    have e : k = k' := hI k (List.mem_of_getElem? hk) k' (List.mem_of_getElem? hk') hpq
    subst e
    obtain ⟨hi, hi'⟩ := List.getElem?_eq_some_iff.mp hk
    exact (List.getElem?_inj hi keys_nd).mp (hk.trans hk'.symm)
  · obtain ⟨k, hk, rfl⟩ := Wd_inv h
    exact Or.inl ⟨k, List.mem_of_getElem? hk, rfl⟩
/-- the world behind a write: g2 is g but for the cell of k -/
theorem Wd_set {ad : Ky → Nat} {cy : Nat → ClassId} {g g' : GS} {k : Ky} {q0 : Nat} (hk : keys[q0]? = some k) {e : va_E} (h1 : cellW ad cy g' k = e) (h2 : ∀ k' ∈ keys, k' ≠ k → cellW ad cy g' k' = cellW ad cy g k') : (Wd ad cy g).set q0 (ad k, e) = Wd ad cy g' := by
  apply List.ext_getElem?
  intro n
  rw [List.getElem?_set]
  obtain ⟨hlt, hget⟩ := List.getElem?_eq_some_iff.mp hk
  by_cases hn : q0 = n
  · subst hn
    simp only [if_true, Wd, List.length_map, List.getElem?_map, hk, Option.map_some, hlt, h1]
  · rw [if_neg hn]
    simp only [Wd, List.getElem?_map]
    cases hk' : keys[n]? with
    | none => rfl
    | some k' =>
      have hne : k' ≠ k := by
        intro h
        subst h
        exact hn ((List.getElem?_inj hlt keys_nd).mp (hk.trans hk'.symm))
      simp only [Option.map_some]
      rw [h2 k' (List.mem_of_getElem? hk') hne]
end
section
/-! ===== a method's stretch of the way, over the whole system's world ===== -/
/-- the locals: those that are known -/
def Lc (ls : Array Slot) (nL : Nat) (lc : List (Option Value)) : Prop := ls.size = nL ∧ lv_wf ls ∧ ∀ (i : Nat) (v : Value), lc[i]? = some (some v) → ls[i]? = some (.val v)
def lcl : Nat → List (Option Value) → List (Nat × Value)
  | _, [] => []
  | n, none :: t => lcl (n + 1) t
  | n, some v :: t => (n, v) :: lcl (n + 1) t
theorem lcl_mem {lc : List (Option Value)} : ∀ {n i : Nat} {v : Value}, lc[i]? = some (some v) → (n + i, v) ∈ lcl n lc := by
  induction lc with
  | nil => intro n i v h; simp at h
  | cons a t ih =>
    intro n i v h
    cases i with
    | zero =>
      simp at h
      subst h
      simp [lcl]
    | succ i =>
      have h2 := ih (n := n + 1) (i := i) (by simpa using h)
      rw [show n + 1 + i = n + (i + 1) by omega] at h2
      cases a with
      | none => exact h2
      | some w => exact List.mem_cons_of_mem _ h2
theorem lcl_inv {lc : List (Option Value)} : ∀ {n : Nat} {q : Nat × Value}, q ∈ lcl n lc → ∃ i, q.1 = n + i ∧ lc[i]? = some (some q.2) := by
  induction lc with
  | nil => intro n q h; simp [lcl] at h
  | cons a t ih =>
    intro n q h
    cases a with
    | none =>
      obtain ⟨i, h1, h2⟩ := ih (n := n + 1) (q := q) h
      exact ⟨i + 1, by omega, by simpa using h2⟩
    | some w =>
      rcases List.mem_cons.mp h with rfl | h
      · exact ⟨0, rfl, rfl⟩
      · obtain ⟨i, h1, h2⟩ := ih (n := n + 1) (q := q) h
        exact ⟨i + 1, by omega, by simpa using h2⟩
theorem Lc.has {ls : Array Slot} {nL : Nat} {lc : List (Option Value)} (h : Lc ls nL lc) : lv_has ls nL (lcl 0 lc) := by
  refine ⟨h.1, h.2.1, fun q hq => ?_⟩
  obtain ⟨i, h1, h2⟩ := lcl_inv hq
  rw [h1, Nat.zero_add]
  exact h.2.2 i q.2 h2
theorem Lc.at {ls : Array Slot} {nL : Nat} {lc : List (Option Value)} (h : Lc ls nL lc) {i : Nat} {v : Value} (hv : lc[i]? = some (some v)) : ls[i]? = some (.val v) := h.2.2 i v hv
/-- no long stands just before -/
def okst (lc : List (Option Value)) (i : Nat) : Bool := match i with
  | 0 => true
  | j + 1 => match lc[j]? with
    | some (some w) => !(w.category == 2)
    | _ => true
theorem Lc.of1 {ls' : Array Slot} {nL : Nat} {lc : List (Option Value)} {i : Nat} {v : Value} (ho : okst lc i = true) (h : lv_has ls' nL ((i, v) :: (lcl 0 lc).filter (fun q => !(q.1 == i) && !(q.1 + 1 == i && q.2.category == 2)))) : Lc ls' nL (lc.set i (some v)) := by
  refine ⟨h.1, h.2.1, fun j w hj => ?_⟩
  rw [List.getElem?_set] at hj
  by_cases e : i = j
  · subst e
    rw [if_pos rfl] at hj
    split at hj
    · cases hj
      exact h.2.2 (i, v) List.mem_cons_self
    · cases hj
  · rw [if_neg e] at hj
    have hm := lcl_mem (n := 0) hj
    rw [Nat.zero_add] at hm
    refine h.2.2 (j, w) (List.mem_cons_of_mem _ (List.mem_filter.mpr ⟨hm, ?_⟩))
    have h1 : (j == i) = false := by simpa using fun q => e q.symm
    have h2 : (j + 1 == i && w.category == 2) = false := by
      by_cases q : j + 1 = i
      · subst q
        simp only [okst, hj] at ho
        simpa using ho
      · simp [q]
    simp only [h1, h2, Bool.not_false, Bool.and_self]
theorem Lc.of2 {ls' : Array Slot} {nL : Nat} {lc : List (Option Value)} {i : Nat} {v : Value} (ho : okst lc i = true) (h : lv_has ls' nL ((i, v) :: (lcl 0 lc).filter (fun q => !(q.1 == i) && (!(q.1 == i + 1) && !(q.1 + 1 == i && q.2.category == 2))))) : Lc ls' nL ((lc.set i (some v)).set (i + 1) none) := by
  refine ⟨h.1, h.2.1, fun j w hj => ?_⟩
  rw [List.getElem?_set] at hj
  by_cases e : i + 1 = j
  · subst e
    rw [if_pos rfl] at hj
    split at hj <;> cases hj
  · rw [if_neg e, List.getElem?_set] at hj
    by_cases e2 : i = j
    · subst e2
      rw [if_pos rfl] at hj
      split at hj
      · cases hj
        exact h.2.2 (i, v) List.mem_cons_self
      · cases hj
    · rw [if_neg e2] at hj
      have hm := lcl_mem (n := 0) hj
      rw [Nat.zero_add] at hm
      refine h.2.2 (j, w) (List.mem_cons_of_mem _ (List.mem_filter.mpr ⟨hm, ?_⟩))
      have h1 : (j == i) = false := by simpa using fun q => e2 q.symm
      have h3 : (j == i + 1) = false := by simpa using fun q => e q.symm
      have h2 : (j + 1 == i && w.category == 2) = false := by
        by_cases q : j + 1 = i
        · subst q
          simp only [okst, hj] at ho
          simpa using ho
        · simp [q]
      simp only [h1, h2, h3, Bool.not_false, Bool.and_self]
/-- the locals at a method's entry -/
def entl : List Value → List (Option Value)
  | [] => []
  | v :: vs => if v.category = 2 then some v :: none :: entl vs else some v :: entl vs
theorem entl_mem : ∀ (vs : List Value) (n i : Nat) (v : Value), (entl vs)[i]? = some (some v) → (n + i, v) ∈ lv_args n vs := by
  intro vs
  induction vs with
  | nil => intro n i v h; simp [entl] at h
  | cons a t ih =>
    intro n i v h
    by_cases hc : a.category = 2
    · simp only [entl, hc, if_true] at h
      simp only [lv_args, hc, if_true]
      match i, h with
      | 0, h => simp at h; subst h; exact List.mem_cons_self
      | 1, h => simp at h
      | i + 2, h =>
        have h2 := ih (n + 2) i v (by simpa using h)
        rw [show n + 2 + i = n + (i + 2) by omega] at h2
        exact List.mem_cons_of_mem _ h2
    · simp only [entl, hc, if_false] at h
      simp only [lv_args, hc, if_false]
      match i, h with
      | 0, h => simp at h; subst h; exact List.mem_cons_self
      | i + 1, h =>
        have h2 := ih (n + 1) i v (by simpa using h)
        rw [show n + 1 + i = n + (i + 1) by omega] at h2
        exact List.mem_cons_of_mem _ h2
theorem Lc.entry {ls : Array Slot} {nL k : Nat} {vs : List Value} (h : lv_has ls nL (lv_args 0 vs)) : Lc ls nL (entl vs ++ List.replicate k none) := by
  refine ⟨h.1, h.2.1, fun i v hi => ?_⟩
  by_cases hl : i < (entl vs).length
  · rw [List.getElem?_append_left hl] at hi
    have := entl_mem vs 0 i v hi
    rw [Nat.zero_add] at this
    exact h.2.2 _ this
  · rw [List.getElem?_append_right (by omega)] at hi
    have := List.eq_of_mem_replicate (List.mem_of_getElem? hi)
    cases this
def PG (D : va_G) (ad : Ky → Nat) (cy : Nat → ClassId) (g : GS) (sz : Nat) (U : State) : Prop := U.heap.size = sz ∧ va_P D vwCl (Wd ad cy g) U.heap ∧ va_K D vwCl (tysA cy) U
def BG (D : va_G) (ad : Ky → Nat) (cy : Nat → ClassId) (u : GS) (t : State) : Prop := va_P D vwCl (Wd ad cy u) t.heap ∧ va_K D vwCl (tysA cy) t
/-- what a method's way stands on -/
def Cx (p : Program) (R : Room) (s : State) (m : MethodId) (args : Array Value) (meth : Method) (c : Code) (own : String) (cc : ByteArray) (nL : Nat) (ret : Option FieldType) (D : va_G) (ad : Ky → Nat) (cy : Nat → ClassId) : Prop :=
  p.tables.exec = Jvm.exec ∧ c.code = cc ∧ c.maxLocals = nL ∧ meth.sig.returnType = ret ∧ meth.locks = false ∧ s.vm.findClass own = some m.cls ∧ (∀ w ∈ lwg, w.before args s = true) ∧ va_K D vwCl (tysA cy) s ∧ Inj ad
/-- from pc on, with these locals and this stack, in this state of the system -/
def Vy (p : Program) (l : Launch) (e : Env) (R : Room) (s : State) (m : MethodId) (args : Array Value) (below : List Frame) (meth : Method) (c : Code) (nL : Nat) (D : va_G) (ad : Ky → Nat) (cy : Nat → ClassId) (Q : State → Prop) (pc : Nat) (lc : List (Option Value)) (st : List Value) (g : GS) : Prop :=
  ∀ (H : Heap) (locs : List Loc) (ls : Array Slot), va_P D vwCl (Wd ad cy g) H → va_S (AA ad s.heap.size) s.heap H locs → Lc ls nL lc → W p l e R s m args below meth c H locs 0 0 Q (F0 m pc ls st)
section VY
variable {p : Program} {l : Launch} {e : Env} {R : Room} {s : State} {m : MethodId} {args : Array Value} {below : List Frame} {meth : Method} {c : Code} {own : String} {cc : ByteArray} {nL : Nat} {ret : Option FieldType} {D : va_G} {ad : Ky → Nat} {cy : Nat → ClassId} {Q : State → Prop} {pc : Nat} {lc : List (Option Value)} {st : List Value} {g : GS}
theorem v_iconst (X : Cx p R s m args meth c own cc nL ret D ad cy) {n : Int} {v : Int32} (hd : decode cc pc = .ok (.iconst n, 1)) (hv : Int32.ofInt n = v) (k : Vy p l e R s m args below meth c nL D ad cy Q (pc + 1) lc (.int v :: st) g) : Vy p l e R s m args below meth c nL D ad cy Q pc lc st g :=
  fun H locs ls h1 h2 h3 => lv_iconst X.1 X.2.1 hd hv (k H locs ls h1 h2 h3)
theorem v_bipush (X : Cx p R s m args meth c own cc nL ret D ad cy) {n : Int} {v : Int32} (hd : decode cc pc = .ok (.bipush n, 2)) (hv : (Int8.ofInt n).toInt32 = v) (k : Vy p l e R s m args below meth c nL D ad cy Q (pc + 2) lc (.int v :: st) g) : Vy p l e R s m args below meth c nL D ad cy Q pc lc st g :=
  fun H locs ls h1 h2 h3 => lv_bipush X.1 X.2.1 hd hv (k H locs ls h1 h2 h3)
theorem v_sipush (X : Cx p R s m args meth c own cc nL ret D ad cy) {n : Int} {v : Int32} (hd : decode cc pc = .ok (.sipush n, 3)) (hv : (Int16.ofInt n).toInt32 = v) (k : Vy p l e R s m args below meth c nL D ad cy Q (pc + 3) lc (.int v :: st) g) : Vy p l e R s m args below meth c nL D ad cy Q pc lc st g :=
  fun H locs ls h1 h2 h3 => lv_sipush X.1 X.2.1 hd hv (k H locs ls h1 h2 h3)
theorem v_lconst (X : Cx p R s m args meth c own cc nL ret D ad cy) {n : Fin 2} {v : Int64} (hd : decode cc pc = .ok (.lconst n, 1)) (hv : Int64.ofNat (n : Nat) = v) (k : Vy p l e R s m args below meth c nL D ad cy Q (pc + 1) lc (.long v :: st) g) : Vy p l e R s m args below meth c nL D ad cy Q pc lc st g :=
  fun H locs ls h1 h2 h3 => lv_lconst X.1 X.2.1 hd hv (k H locs ls h1 h2 h3)
theorem v_ldc (X : Cx p R s m args meth c own cc nL ret D ad cy) {index : Nat} {v : Int32} (hw : Cond.constant own index v ∈ lwg) (hd : decode cc pc = .ok (.ldc index, 2)) (k : Vy p l e R s m args below meth c nL D ad cy Q (pc + 2) lc (.int v :: st) g) : Vy p l e R s m args below meth c nL D ad cy Q pc lc st g :=
  fun H locs ls h1 h2 h3 => lv_ldc X.1 X.2.1 X.2.2.2.2.2.1 (X.2.2.2.2.2.2.1 _ hw) hd (k H locs ls h1 h2 h3)
theorem v_ldcw (X : Cx p R s m args meth c own cc nL ret D ad cy) {index : Nat} {v : Int32} (hw : Cond.constant own index v ∈ lwg) (hd : decode cc pc = .ok (.ldc_w index, 3)) (k : Vy p l e R s m args below meth c nL D ad cy Q (pc + 3) lc (.int v :: st) g) : Vy p l e R s m args below meth c nL D ad cy Q pc lc st g :=
  fun H locs ls h1 h2 h3 => lv_ldcw X.1 X.2.1 X.2.2.2.2.2.1 (X.2.2.2.2.2.2.1 _ hw) hd (k H locs ls h1 h2 h3)
theorem v_ldc2 (X : Cx p R s m args meth c own cc nL ret D ad cy) {index : Nat} {v : Int64} (hw : Cond.constantLong own index v ∈ lwg) (hd : decode cc pc = .ok (.ldc2_w index, 3)) (k : Vy p l e R s m args below meth c nL D ad cy Q (pc + 3) lc (.long v :: st) g) : Vy p l e R s m args below meth c nL D ad cy Q pc lc st g :=
  fun H locs ls h1 h2 h3 => lv_ldc2 X.1 X.2.1 X.2.2.2.2.2.1 (X.2.2.2.2.2.2.1 _ hw) hd (k H locs ls h1 h2 h3)
theorem v_iloadn (X : Cx p R s m args meth c own cc nL ret D ad cy) {k4 : Fin 4} {i : Nat} {x : Int32} (hd : decode cc pc = .ok (.iload_n k4, 1)) (hi : (k4 : Nat) = i) (hl : lc[i]? = some (some (.int x))) (k : Vy p l e R s m args below meth c nL D ad cy Q (pc + 1) lc (.int x :: st) g) : Vy p l e R s m args below meth c nL D ad cy Q pc lc st g :=
  fun H locs ls h1 h2 h3 => lv_iload_n X.1 X.2.1 hd hi (h3.at hl) (k H locs ls h1 h2 h3)
theorem v_iload (X : Cx p R s m args meth c own cc nL ret D ad cy) {i : Nat} {x : Int32} (hd : decode cc pc = .ok (.iload i, 2)) (hl : lc[i]? = some (some (.int x))) (k : Vy p l e R s m args below meth c nL D ad cy Q (pc + 2) lc (.int x :: st) g) : Vy p l e R s m args below meth c nL D ad cy Q pc lc st g :=
  fun H locs ls h1 h2 h3 => lv_iload X.1 X.2.1 hd (h3.at hl) (k H locs ls h1 h2 h3)
theorem v_lloadn (X : Cx p R s m args meth c own cc nL ret D ad cy) {k4 : Fin 4} {i : Nat} {x : Int64} (hd : decode cc pc = .ok (.lload_n k4, 1)) (hi : (k4 : Nat) = i) (hl : lc[i]? = some (some (.long x))) (k : Vy p l e R s m args below meth c nL D ad cy Q (pc + 1) lc (.long x :: st) g) : Vy p l e R s m args below meth c nL D ad cy Q pc lc st g :=
  fun H locs ls h1 h2 h3 => lv_lload_n X.1 X.2.1 hd hi (h3.at hl) (k H locs ls h1 h2 h3)
theorem v_lload (X : Cx p R s m args meth c own cc nL ret D ad cy) {i : Nat} {x : Int64} (hd : decode cc pc = .ok (.lload i, 2)) (hl : lc[i]? = some (some (.long x))) (k : Vy p l e R s m args below meth c nL D ad cy Q (pc + 2) lc (.long x :: st) g) : Vy p l e R s m args below meth c nL D ad cy Q pc lc st g :=
  fun H locs ls h1 h2 h3 => lv_lload X.1 X.2.1 hd (h3.at hl) (k H locs ls h1 h2 h3)
theorem v_aloadn (X : Cx p R s m args meth c own cc nL ret D ad cy) {k4 : Fin 4} {i : Nat} {x : Nat} (hd : decode cc pc = .ok (.aload_n k4, 1)) (hi : (k4 : Nat) = i) (hl : lc[i]? = some (some (.ref x))) (k : Vy p l e R s m args below meth c nL D ad cy Q (pc + 1) lc (.ref x :: st) g) : Vy p l e R s m args below meth c nL D ad cy Q pc lc st g :=
  fun H locs ls h1 h2 h3 => lv_aload_n X.1 X.2.1 hd hi (h3.at hl) (k H locs ls h1 h2 h3)
theorem v_aload (X : Cx p R s m args meth c own cc nL ret D ad cy) {i : Nat} {x : Nat} (hd : decode cc pc = .ok (.aload i, 2)) (hl : lc[i]? = some (some (.ref x))) (k : Vy p l e R s m args below meth c nL D ad cy Q (pc + 2) lc (.ref x :: st) g) : Vy p l e R s m args below meth c nL D ad cy Q pc lc st g :=
  fun H locs ls h1 h2 h3 => lv_aload X.1 X.2.1 hd (h3.at hl) (k H locs ls h1 h2 h3)
theorem v_istoren (X : Cx p R s m args meth c own cc nL ret D ad cy) {k4 : Fin 4} {i : Nat} {x : Int32} {lc' : List (Option Value)} (hd : decode cc pc = .ok (.istore_n k4, 1)) (hi : (k4 : Nat) = i) (hn : i < nL) (ho : okst lc i = true) (hl : lc.set i (some (.int x)) = lc') (k : Vy p l e R s m args below meth c nL D ad cy Q (pc + 1) lc' st g) : Vy p l e R s m args below meth c nL D ad cy Q pc lc (.int x :: st) g :=
  fun H locs ls h1 h2 h3 => lv_istore_n X.1 X.2.1 hd hi h3.has hn rfl (fun ls' h => k H locs ls' h1 h2 (hl ▸ Lc.of1 ho h))
theorem v_istore (X : Cx p R s m args meth c own cc nL ret D ad cy) {i : Nat} {x : Int32} {lc' : List (Option Value)} (hd : decode cc pc = .ok (.istore i, 2)) (hn : i < nL) (ho : okst lc i = true) (hl : lc.set i (some (.int x)) = lc') (k : Vy p l e R s m args below meth c nL D ad cy Q (pc + 2) lc' st g) : Vy p l e R s m args below meth c nL D ad cy Q pc lc (.int x :: st) g :=
  fun H locs ls h1 h2 h3 => lv_istore X.1 X.2.1 hd h3.has hn rfl (fun ls' h => k H locs ls' h1 h2 (hl ▸ Lc.of1 ho h))
theorem v_astoren (X : Cx p R s m args meth c own cc nL ret D ad cy) {k4 : Fin 4} {i : Nat} {x : Nat} {lc' : List (Option Value)} (hd : decode cc pc = .ok (.astore_n k4, 1)) (hi : (k4 : Nat) = i) (hn : i < nL) (ho : okst lc i = true) (hl : lc.set i (some (.ref x)) = lc') (k : Vy p l e R s m args below meth c nL D ad cy Q (pc + 1) lc' st g) : Vy p l e R s m args below meth c nL D ad cy Q pc lc (.ref x :: st) g :=
  fun H locs ls h1 h2 h3 => lv_astore_n X.1 X.2.1 hd hi h3.has hn rfl (fun ls' h => k H locs ls' h1 h2 (hl ▸ Lc.of1 ho h))
theorem v_astore (X : Cx p R s m args meth c own cc nL ret D ad cy) {i : Nat} {x : Nat} {lc' : List (Option Value)} (hd : decode cc pc = .ok (.astore i, 2)) (hn : i < nL) (ho : okst lc i = true) (hl : lc.set i (some (.ref x)) = lc') (k : Vy p l e R s m args below meth c nL D ad cy Q (pc + 2) lc' st g) : Vy p l e R s m args below meth c nL D ad cy Q pc lc (.ref x :: st) g :=
  fun H locs ls h1 h2 h3 => lv_astore X.1 X.2.1 hd h3.has hn rfl (fun ls' h => k H locs ls' h1 h2 (hl ▸ Lc.of1 ho h))
theorem v_lstoren (X : Cx p R s m args meth c own cc nL ret D ad cy) {k4 : Fin 4} {i : Nat} {x : Int64} {lc' : List (Option Value)} (hd : decode cc pc = .ok (.lstore_n k4, 1)) (hi : (k4 : Nat) = i) (hn : i + 1 < nL) (ho : okst lc i = true) (hl : (lc.set i (some (.long x))).set (i + 1) none = lc') (k : Vy p l e R s m args below meth c nL D ad cy Q (pc + 1) lc' st g) : Vy p l e R s m args below meth c nL D ad cy Q pc lc (.long x :: st) g :=
  fun H locs ls h1 h2 h3 => lv_lstore_n X.1 X.2.1 hd hi h3.has hn rfl (fun ls' h => k H locs ls' h1 h2 (hl ▸ Lc.of2 ho h))
theorem v_lstore (X : Cx p R s m args meth c own cc nL ret D ad cy) {i : Nat} {x : Int64} {lc' : List (Option Value)} (hd : decode cc pc = .ok (.lstore i, 2)) (hn : i + 1 < nL) (ho : okst lc i = true) (hl : (lc.set i (some (.long x))).set (i + 1) none = lc') (k : Vy p l e R s m args below meth c nL D ad cy Q (pc + 2) lc' st g) : Vy p l e R s m args below meth c nL D ad cy Q pc lc (.long x :: st) g :=
  fun H locs ls h1 h2 h3 => lv_lstore X.1 X.2.1 hd h3.has hn rfl (fun ls' h => k H locs ls' h1 h2 (hl ▸ Lc.of2 ho h))
theorem v_iinc (X : Cx p R s m args meth c own cc nL ret D ad cy) {i : Nat} {n : Int} {x v : Int32} {lc' : List (Option Value)} (hd : decode cc pc = .ok (.iinc i n, 3)) (hx : lc[i]? = some (some (.int x))) (hv : x + Int32.ofInt n = v) (hn : i < nL) (ho : okst lc i = true) (hl : lc.set i (some (.int v)) = lc') (k : Vy p l e R s m args below meth c nL D ad cy Q (pc + 3) lc' st g) : Vy p l e R s m args below meth c nL D ad cy Q pc lc st g := by
  intro H locs ls h1 h2 h3
  have hm := lcl_mem (n := 0) hx
  rw [Nat.zero_add] at hm
  obtain ⟨k0, hk0⟩ := List.getElem?_of_mem hm
  exact lv_iinc X.1 X.2.1 hd h3.has hk0 hv hn rfl (fun ls' h => k H locs ls' h1 h2 (hl ▸ Lc.of1 ho h))
theorem v_goto (X : Cx p R s m args meth c own cc nL ret D ad cy) {off : Int} (tgt : Nat) (hd : decode cc pc = .ok (.goto off, 3)) (ht : (pc : Int) + off = (tgt : Int)) (k : Vy p l e R s m args below meth c nL D ad cy Q tgt lc st g) : Vy p l e R s m args below meth c nL D ad cy Q pc lc st g :=
  fun H locs ls h1 h2 h3 => lv_goto X.1 X.2.1 hd ht (k H locs ls h1 h2 h3)
theorem v_dup (X : Cx p R s m args meth c own cc nL ret D ad cy) {va : Value} (hd : decode cc pc = .ok (.dup, 1)) (hc : va.category = 1) (k : Vy p l e R s m args below meth c nL D ad cy Q (pc + 1) lc (va :: va :: st) g) : Vy p l e R s m args below meth c nL D ad cy Q pc lc (va :: st) g :=
  fun H locs ls h1 h2 h3 => lv_dup X.1 X.2.1 hd hc (k H locs ls h1 h2 h3)
theorem v_pop (X : Cx p R s m args meth c own cc nL ret D ad cy) {va : Value} (hd : decode cc pc = .ok (.pop, 1)) (hc : va.category = 1) (k : Vy p l e R s m args below meth c nL D ad cy Q (pc + 1) lc st g) : Vy p l e R s m args below meth c nL D ad cy Q pc lc (va :: st) g :=
  fun H locs ls h1 h2 h3 => lv_pop X.1 X.2.1 hd hc (k H locs ls h1 h2 h3)
theorem v_dup_x1 (X : Cx p R s m args meth c own cc nL ret D ad cy) {va vb : Value} (hd : decode cc pc = .ok (.dup_x1, 1)) (hc : va.category = 1) (hc2 : vb.category = 1) (k : Vy p l e R s m args below meth c nL D ad cy Q (pc + 1) lc (va :: vb :: va :: st) g) : Vy p l e R s m args below meth c nL D ad cy Q pc lc (va :: vb :: st) g :=
  fun H locs ls h1 h2 h3 => lv_dup_x1 X.1 X.2.1 hd hc hc2 (k H locs ls h1 h2 h3)
theorem v_dup_x2 (X : Cx p R s m args meth c own cc nL ret D ad cy) {va vb vd : Value} (hd : decode cc pc = .ok (.dup_x2, 1)) (hc : va.category = 1) (hc2 : vb.category = 1) (hc3 : vd.category = 1) (k : Vy p l e R s m args below meth c nL D ad cy Q (pc + 1) lc (va :: vb :: vd :: va :: st) g) : Vy p l e R s m args below meth c nL D ad cy Q pc lc (va :: vb :: vd :: st) g :=
  fun H locs ls h1 h2 h3 => lv_dup_x2 X.1 X.2.1 hd hc hc2 hc3 (k H locs ls h1 h2 h3)
theorem v_dup2 (X : Cx p R s m args meth c own cc nL ret D ad cy) {va vb : Value} (hd : decode cc pc = .ok (.dup2, 1)) (hc : va.category = 1) (hc2 : vb.category = 1) (k : Vy p l e R s m args below meth c nL D ad cy Q (pc + 1) lc (va :: vb :: va :: vb :: st) g) : Vy p l e R s m args below meth c nL D ad cy Q pc lc (va :: vb :: st) g :=
  fun H locs ls h1 h2 h3 => lv_dup2_11 X.1 X.2.1 hd hc hc2 (k H locs ls h1 h2 h3)
theorem v_iadd (X : Cx p R s m args meth c own cc nL ret D ad cy) {x y : Int32} (hd : decode cc pc = .ok (.iadd, 1)) (k : Vy p l e R s m args below meth c nL D ad cy Q (pc + 1) lc (.int (x + y) :: st) g) : Vy p l e R s m args below meth c nL D ad cy Q pc lc (.int y :: .int x :: st) g :=
  fun H locs ls h1 h2 h3 => lv_iadd X.1 X.2.1 hd (k H locs ls h1 h2 h3)
theorem v_isub (X : Cx p R s m args meth c own cc nL ret D ad cy) {x y : Int32} (hd : decode cc pc = .ok (.isub, 1)) (k : Vy p l e R s m args below meth c nL D ad cy Q (pc + 1) lc (.int (x - y) :: st) g) : Vy p l e R s m args below meth c nL D ad cy Q pc lc (.int y :: .int x :: st) g :=
  fun H locs ls h1 h2 h3 => lv_isub X.1 X.2.1 hd (k H locs ls h1 h2 h3)
theorem v_imul (X : Cx p R s m args meth c own cc nL ret D ad cy) {x y : Int32} (hd : decode cc pc = .ok (.imul, 1)) (k : Vy p l e R s m args below meth c nL D ad cy Q (pc + 1) lc (.int (x * y) :: st) g) : Vy p l e R s m args below meth c nL D ad cy Q pc lc (.int y :: .int x :: st) g :=
  fun H locs ls h1 h2 h3 => lv_imul X.1 X.2.1 hd (k H locs ls h1 h2 h3)
theorem v_iand (X : Cx p R s m args meth c own cc nL ret D ad cy) {x y : Int32} (hd : decode cc pc = .ok (.iand, 1)) (k : Vy p l e R s m args below meth c nL D ad cy Q (pc + 1) lc (.int (x &&& y) :: st) g) : Vy p l e R s m args below meth c nL D ad cy Q pc lc (.int y :: .int x :: st) g :=
  fun H locs ls h1 h2 h3 => lv_iand X.1 X.2.1 hd (k H locs ls h1 h2 h3)
theorem v_ior (X : Cx p R s m args meth c own cc nL ret D ad cy) {x y : Int32} (hd : decode cc pc = .ok (.ior, 1)) (k : Vy p l e R s m args below meth c nL D ad cy Q (pc + 1) lc (.int (x ||| y) :: st) g) : Vy p l e R s m args below meth c nL D ad cy Q pc lc (.int y :: .int x :: st) g :=
  fun H locs ls h1 h2 h3 => lv_ior X.1 X.2.1 hd (k H locs ls h1 h2 h3)
theorem v_ixor (X : Cx p R s m args meth c own cc nL ret D ad cy) {x y : Int32} (hd : decode cc pc = .ok (.ixor, 1)) (k : Vy p l e R s m args below meth c nL D ad cy Q (pc + 1) lc (.int (x ^^^ y) :: st) g) : Vy p l e R s m args below meth c nL D ad cy Q pc lc (.int y :: .int x :: st) g :=
  fun H locs ls h1 h2 h3 => lv_ixor X.1 X.2.1 hd (k H locs ls h1 h2 h3)
theorem v_ishl (X : Cx p R s m args meth c own cc nL ret D ad cy) {x y : Int32} (hd : decode cc pc = .ok (.ishl, 1)) (k : Vy p l e R s m args below meth c nL D ad cy Q (pc + 1) lc (.int (x <<< (y &&& 31)) :: st) g) : Vy p l e R s m args below meth c nL D ad cy Q pc lc (.int y :: .int x :: st) g :=
  fun H locs ls h1 h2 h3 => lv_ishl X.1 X.2.1 hd (k H locs ls h1 h2 h3)
theorem v_ishr (X : Cx p R s m args meth c own cc nL ret D ad cy) {x y : Int32} (hd : decode cc pc = .ok (.ishr, 1)) (k : Vy p l e R s m args below meth c nL D ad cy Q (pc + 1) lc (.int (x >>> (y &&& 31)) :: st) g) : Vy p l e R s m args below meth c nL D ad cy Q pc lc (.int y :: .int x :: st) g :=
  fun H locs ls h1 h2 h3 => lv_ishr X.1 X.2.1 hd (k H locs ls h1 h2 h3)
theorem v_idiv (X : Cx p R s m args meth c own cc nL ret D ad cy) {x y : Int32} (hd : decode cc pc = .ok (.idiv, 1)) (hy : ¬ y = 0) (k : Vy p l e R s m args below meth c nL D ad cy Q (pc + 1) lc (.int (x / y) :: st) g) : Vy p l e R s m args below meth c nL D ad cy Q pc lc (.int y :: .int x :: st) g :=
  fun H locs ls h1 h2 h3 => lv_idiv X.1 X.2.1 hd hy (k H locs ls h1 h2 h3)
theorem v_irem (X : Cx p R s m args meth c own cc nL ret D ad cy) {x y : Int32} (hd : decode cc pc = .ok (.irem, 1)) (hy : ¬ y = 0) (k : Vy p l e R s m args below meth c nL D ad cy Q (pc + 1) lc (.int (x - x / y * y) :: st) g) : Vy p l e R s m args below meth c nL D ad cy Q pc lc (.int y :: .int x :: st) g :=
  fun H locs ls h1 h2 h3 => lv_irem X.1 X.2.1 hd hy (k H locs ls h1 h2 h3)
theorem v_iushr (X : Cx p R s m args meth c own cc nL ret D ad cy) {x y : Int32} (hd : decode cc pc = .ok (.iushr, 1)) (k : Vy p l e R s m args below meth c nL D ad cy Q (pc + 1) lc (.int ((x.toUInt32 >>> (y.toUInt32 &&& Int32.toUInt32 31)).toInt32) :: st) g) : Vy p l e R s m args below meth c nL D ad cy Q pc lc (.int y :: .int x :: st) g :=
  fun H locs ls h1 h2 h3 => lv_iushr X.1 X.2.1 hd rfl (k H locs ls h1 h2 h3)
theorem v_ineg (X : Cx p R s m args meth c own cc nL ret D ad cy) {x : Int32} (hd : decode cc pc = .ok (.ineg, 1)) (k : Vy p l e R s m args below meth c nL D ad cy Q (pc + 1) lc (.int (-x) :: st) g) : Vy p l e R s m args below meth c nL D ad cy Q pc lc (.int x :: st) g :=
  fun H locs ls h1 h2 h3 => lv_ineg X.1 X.2.1 hd (k H locs ls h1 h2 h3)
theorem v_ladd (X : Cx p R s m args meth c own cc nL ret D ad cy) {x y : Int64} (hd : decode cc pc = .ok (.ladd, 1)) (k : Vy p l e R s m args below meth c nL D ad cy Q (pc + 1) lc (.long (x + y) :: st) g) : Vy p l e R s m args below meth c nL D ad cy Q pc lc (.long y :: .long x :: st) g :=
  fun H locs ls h1 h2 h3 => lv_ladd X.1 X.2.1 hd (k H locs ls h1 h2 h3)
theorem v_lsub (X : Cx p R s m args meth c own cc nL ret D ad cy) {x y : Int64} (hd : decode cc pc = .ok (.lsub, 1)) (k : Vy p l e R s m args below meth c nL D ad cy Q (pc + 1) lc (.long (x - y) :: st) g) : Vy p l e R s m args below meth c nL D ad cy Q pc lc (.long y :: .long x :: st) g :=
  fun H locs ls h1 h2 h3 => lv_lsub X.1 X.2.1 hd (k H locs ls h1 h2 h3)
theorem v_lmul (X : Cx p R s m args meth c own cc nL ret D ad cy) {x y : Int64} (hd : decode cc pc = .ok (.lmul, 1)) (k : Vy p l e R s m args below meth c nL D ad cy Q (pc + 1) lc (.long (x * y) :: st) g) : Vy p l e R s m args below meth c nL D ad cy Q pc lc (.long y :: .long x :: st) g :=
  fun H locs ls h1 h2 h3 => lv_lmul X.1 X.2.1 hd (k H locs ls h1 h2 h3)
theorem v_ldiv (X : Cx p R s m args meth c own cc nL ret D ad cy) {x y : Int64} (hd : decode cc pc = .ok (.ldiv, 1)) (hy : ¬ y = 0) (k : Vy p l e R s m args below meth c nL D ad cy Q (pc + 1) lc (.long (x / y) :: st) g) : Vy p l e R s m args below meth c nL D ad cy Q pc lc (.long y :: .long x :: st) g :=
  fun H locs ls h1 h2 h3 => lv_ldiv X.1 X.2.1 hd hy (k H locs ls h1 h2 h3)
theorem v_lrem (X : Cx p R s m args meth c own cc nL ret D ad cy) {x y : Int64} (hd : decode cc pc = .ok (.lrem, 1)) (hy : ¬ y = 0) (k : Vy p l e R s m args below meth c nL D ad cy Q (pc + 1) lc (.long (x - x / y * y) :: st) g) : Vy p l e R s m args below meth c nL D ad cy Q pc lc (.long y :: .long x :: st) g :=
  fun H locs ls h1 h2 h3 => lv_lrem X.1 X.2.1 hd hy (k H locs ls h1 h2 h3)
theorem v_i2l (X : Cx p R s m args meth c own cc nL ret D ad cy) {x : Int32} (hd : decode cc pc = .ok (.i2l, 1)) (k : Vy p l e R s m args below meth c nL D ad cy Q (pc + 1) lc (.long (x.toInt64) :: st) g) : Vy p l e R s m args below meth c nL D ad cy Q pc lc (.int x :: st) g :=
  fun H locs ls h1 h2 h3 => lv_i2l X.1 X.2.1 hd rfl (k H locs ls h1 h2 h3)
theorem v_l2i (X : Cx p R s m args meth c own cc nL ret D ad cy) {x : Int64} (hd : decode cc pc = .ok (.l2i, 1)) (k : Vy p l e R s m args below meth c nL D ad cy Q (pc + 1) lc (.int (x.toInt32) :: st) g) : Vy p l e R s m args below meth c nL D ad cy Q pc lc (.long x :: st) g :=
  fun H locs ls h1 h2 h3 => lv_l2i X.1 X.2.1 hd rfl (k H locs ls h1 h2 h3)
theorem v_i2b (X : Cx p R s m args meth c own cc nL ret D ad cy) {x : Int32} (hd : decode cc pc = .ok (.i2b, 1)) (k : Vy p l e R s m args below meth c nL D ad cy Q (pc + 1) lc (.int (x.toInt8.toInt32) :: st) g) : Vy p l e R s m args below meth c nL D ad cy Q pc lc (.int x :: st) g :=
  fun H locs ls h1 h2 h3 => lv_i2b X.1 X.2.1 hd rfl (k H locs ls h1 h2 h3)
theorem v_i2s (X : Cx p R s m args meth c own cc nL ret D ad cy) {x : Int32} (hd : decode cc pc = .ok (.i2s, 1)) (k : Vy p l e R s m args below meth c nL D ad cy Q (pc + 1) lc (.int (x.toInt16.toInt32) :: st) g) : Vy p l e R s m args below meth c nL D ad cy Q pc lc (.int x :: st) g :=
  fun H locs ls h1 h2 h3 => lv_i2s X.1 X.2.1 hd rfl (k H locs ls h1 h2 h3)
theorem v_lcmp (X : Cx p R s m args meth c own cc nL ret D ad cy) {x y : Int64} (hd : decode cc pc = .ok (.lcmp, 1)) (k : Vy p l e R s m args below meth c nL D ad cy Q (pc + 1) lc (.int (lg_cmp x y) :: st) g) : Vy p l e R s m args below meth c nL D ad cy Q pc lc (.long y :: .long x :: st) g :=
  fun H locs ls h1 h2 h3 => W.lcmp X.1 X.2.1 hd (k H locs ls h1 h2 h3)
theorem v_if_eq (X : Cx p R s m args meth c own cc nL ret D ad cy) {x : Int32} {off : Int} (tgt : Nat) (hd : decode cc pc = .ok (.ifCond .eq off, 3)) (ht : (pc : Int) + off = (tgt : Int)) (kt : x = 0 → Vy p l e R s m args below meth c nL D ad cy Q tgt lc st g) (kf : ¬ x = 0 → Vy p l e R s m args below meth c nL D ad cy Q (pc + 3) lc st g) : Vy p l e R s m args below meth c nL D ad cy Q pc lc (.int x :: st) g :=
  fun H locs ls h1 h2 h3 => lv_if_eq X.1 X.2.1 hd ht (fun q => kt q H locs ls h1 h2 h3) (fun q => kf q H locs ls h1 h2 h3)
theorem v_icmp_eq (X : Cx p R s m args meth c own cc nL ret D ad cy) {x y : Int32} {off : Int} (tgt : Nat) (hd : decode cc pc = .ok (.if_icmp .eq off, 3)) (ht : (pc : Int) + off = (tgt : Int)) (kt : x = y → Vy p l e R s m args below meth c nL D ad cy Q tgt lc st g) (kf : ¬ x = y → Vy p l e R s m args below meth c nL D ad cy Q (pc + 3) lc st g) : Vy p l e R s m args below meth c nL D ad cy Q pc lc (.int y :: .int x :: st) g :=
  fun H locs ls h1 h2 h3 => lv_icmp_eq X.1 X.2.1 hd ht (fun q => kt q H locs ls h1 h2 h3) (fun q => kf q H locs ls h1 h2 h3)
theorem v_if_ne (X : Cx p R s m args meth c own cc nL ret D ad cy) {x : Int32} {off : Int} (tgt : Nat) (hd : decode cc pc = .ok (.ifCond .ne off, 3)) (ht : (pc : Int) + off = (tgt : Int)) (kt : ¬ x = 0 → Vy p l e R s m args below meth c nL D ad cy Q tgt lc st g) (kf : x = 0 → Vy p l e R s m args below meth c nL D ad cy Q (pc + 3) lc st g) : Vy p l e R s m args below meth c nL D ad cy Q pc lc (.int x :: st) g :=
  fun H locs ls h1 h2 h3 => lv_if_ne X.1 X.2.1 hd ht (fun q => kt q H locs ls h1 h2 h3) (fun q => kf q H locs ls h1 h2 h3)
theorem v_icmp_ne (X : Cx p R s m args meth c own cc nL ret D ad cy) {x y : Int32} {off : Int} (tgt : Nat) (hd : decode cc pc = .ok (.if_icmp .ne off, 3)) (ht : (pc : Int) + off = (tgt : Int)) (kt : ¬ x = y → Vy p l e R s m args below meth c nL D ad cy Q tgt lc st g) (kf : x = y → Vy p l e R s m args below meth c nL D ad cy Q (pc + 3) lc st g) : Vy p l e R s m args below meth c nL D ad cy Q pc lc (.int y :: .int x :: st) g :=
  fun H locs ls h1 h2 h3 => lv_icmp_ne X.1 X.2.1 hd ht (fun q => kt q H locs ls h1 h2 h3) (fun q => kf q H locs ls h1 h2 h3)
theorem v_if_lt (X : Cx p R s m args meth c own cc nL ret D ad cy) {x : Int32} {off : Int} (tgt : Nat) (hd : decode cc pc = .ok (.ifCond .lt off, 3)) (ht : (pc : Int) + off = (tgt : Int)) (kt : x < 0 → Vy p l e R s m args below meth c nL D ad cy Q tgt lc st g) (kf : ¬ x < 0 → Vy p l e R s m args below meth c nL D ad cy Q (pc + 3) lc st g) : Vy p l e R s m args below meth c nL D ad cy Q pc lc (.int x :: st) g :=
  fun H locs ls h1 h2 h3 => lv_if_lt X.1 X.2.1 hd ht (fun q => kt q H locs ls h1 h2 h3) (fun q => kf q H locs ls h1 h2 h3)
theorem v_icmp_lt (X : Cx p R s m args meth c own cc nL ret D ad cy) {x y : Int32} {off : Int} (tgt : Nat) (hd : decode cc pc = .ok (.if_icmp .lt off, 3)) (ht : (pc : Int) + off = (tgt : Int)) (kt : x < y → Vy p l e R s m args below meth c nL D ad cy Q tgt lc st g) (kf : ¬ x < y → Vy p l e R s m args below meth c nL D ad cy Q (pc + 3) lc st g) : Vy p l e R s m args below meth c nL D ad cy Q pc lc (.int y :: .int x :: st) g :=
  fun H locs ls h1 h2 h3 => lv_icmp_lt X.1 X.2.1 hd ht (fun q => kt q H locs ls h1 h2 h3) (fun q => kf q H locs ls h1 h2 h3)
theorem v_if_ge (X : Cx p R s m args meth c own cc nL ret D ad cy) {x : Int32} {off : Int} (tgt : Nat) (hd : decode cc pc = .ok (.ifCond .ge off, 3)) (ht : (pc : Int) + off = (tgt : Int)) (kt : 0 ≤ x → Vy p l e R s m args below meth c nL D ad cy Q tgt lc st g) (kf : ¬ 0 ≤ x → Vy p l e R s m args below meth c nL D ad cy Q (pc + 3) lc st g) : Vy p l e R s m args below meth c nL D ad cy Q pc lc (.int x :: st) g :=
  fun H locs ls h1 h2 h3 => lv_if_ge X.1 X.2.1 hd ht (fun q => kt q H locs ls h1 h2 h3) (fun q => kf q H locs ls h1 h2 h3)
theorem v_icmp_ge (X : Cx p R s m args meth c own cc nL ret D ad cy) {x y : Int32} {off : Int} (tgt : Nat) (hd : decode cc pc = .ok (.if_icmp .ge off, 3)) (ht : (pc : Int) + off = (tgt : Int)) (kt : y ≤ x → Vy p l e R s m args below meth c nL D ad cy Q tgt lc st g) (kf : ¬ y ≤ x → Vy p l e R s m args below meth c nL D ad cy Q (pc + 3) lc st g) : Vy p l e R s m args below meth c nL D ad cy Q pc lc (.int y :: .int x :: st) g :=
  fun H locs ls h1 h2 h3 => lv_icmp_ge X.1 X.2.1 hd ht (fun q => kt q H locs ls h1 h2 h3) (fun q => kf q H locs ls h1 h2 h3)
theorem v_if_gt (X : Cx p R s m args meth c own cc nL ret D ad cy) {x : Int32} {off : Int} (tgt : Nat) (hd : decode cc pc = .ok (.ifCond .gt off, 3)) (ht : (pc : Int) + off = (tgt : Int)) (kt : 0 < x → Vy p l e R s m args below meth c nL D ad cy Q tgt lc st g) (kf : ¬ 0 < x → Vy p l e R s m args below meth c nL D ad cy Q (pc + 3) lc st g) : Vy p l e R s m args below meth c nL D ad cy Q pc lc (.int x :: st) g :=
  fun H locs ls h1 h2 h3 => lv_if_gt X.1 X.2.1 hd ht (fun q => kt q H locs ls h1 h2 h3) (fun q => kf q H locs ls h1 h2 h3)
theorem v_icmp_gt (X : Cx p R s m args meth c own cc nL ret D ad cy) {x y : Int32} {off : Int} (tgt : Nat) (hd : decode cc pc = .ok (.if_icmp .gt off, 3)) (ht : (pc : Int) + off = (tgt : Int)) (kt : y < x → Vy p l e R s m args below meth c nL D ad cy Q tgt lc st g) (kf : ¬ y < x → Vy p l e R s m args below meth c nL D ad cy Q (pc + 3) lc st g) : Vy p l e R s m args below meth c nL D ad cy Q pc lc (.int y :: .int x :: st) g :=
  fun H locs ls h1 h2 h3 => lv_icmp_gt X.1 X.2.1 hd ht (fun q => kt q H locs ls h1 h2 h3) (fun q => kf q H locs ls h1 h2 h3)
theorem v_if_le (X : Cx p R s m args meth c own cc nL ret D ad cy) {x : Int32} {off : Int} (tgt : Nat) (hd : decode cc pc = .ok (.ifCond .le off, 3)) (ht : (pc : Int) + off = (tgt : Int)) (kt : x ≤ 0 → Vy p l e R s m args below meth c nL D ad cy Q tgt lc st g) (kf : ¬ x ≤ 0 → Vy p l e R s m args below meth c nL D ad cy Q (pc + 3) lc st g) : Vy p l e R s m args below meth c nL D ad cy Q pc lc (.int x :: st) g :=
  fun H locs ls h1 h2 h3 => lv_if_le X.1 X.2.1 hd ht (fun q => kt q H locs ls h1 h2 h3) (fun q => kf q H locs ls h1 h2 h3)
theorem v_icmp_le (X : Cx p R s m args meth c own cc nL ret D ad cy) {x y : Int32} {off : Int} (tgt : Nat) (hd : decode cc pc = .ok (.if_icmp .le off, 3)) (ht : (pc : Int) + off = (tgt : Int)) (kt : x ≤ y → Vy p l e R s m args below meth c nL D ad cy Q tgt lc st g) (kf : ¬ x ≤ y → Vy p l e R s m args below meth c nL D ad cy Q (pc + 3) lc st g) : Vy p l e R s m args below meth c nL D ad cy Q pc lc (.int y :: .int x :: st) g :=
  fun H locs ls h1 h2 h3 => lv_icmp_le X.1 X.2.1 hd ht (fun q => kt q H locs ls h1 h2 h3) (fun q => kf q H locs ls h1 h2 h3)
theorem v_tableOut (X : Cx p R s m args meth c own cc nL ret D ad cy) {dflt lo hi : Int} {offs : Array Int} {len : Nat} {x : Int32} (tgt : Nat) (hd : decode cc pc = .ok (.tableswitch dflt lo hi offs, len)) (h : x.toInt < lo ∨ hi < x.toInt) (ht : (pc : Int) + dflt = (tgt : Int)) (k : Vy p l e R s m args below meth c nL D ad cy Q tgt lc st g) : Vy p l e R s m args below meth c nL D ad cy Q pc lc (.int x :: st) g :=
  fun H locs ls h1 h2 h3 => lv_tableOut X.1 X.2.1 hd h ht (k H locs ls h1 h2 h3)
theorem v_tableIn (X : Cx p R s m args meth c own cc nL ret D ad cy) {dflt lo hi : Int} {offs : Array Int} {len : Nat} {x : Int32} {off : Int} (tgt : Nat) (hd : decode cc pc = .ok (.tableswitch dflt lo hi offs, len)) (q1 : ¬ x.toInt < lo) (q2 : ¬ hi < x.toInt) (ho : offs[(x.toInt - lo).toNat]? = some off) (ht : (pc : Int) + off = (tgt : Int)) (k : Vy p l e R s m args below meth c nL D ad cy Q tgt lc st g) : Vy p l e R s m args below meth c nL D ad cy Q pc lc (.int x :: st) g :=
  fun H locs ls h1 h2 h3 => lv_tableIn X.1 X.2.1 hd q1 q2 ho ht (k H locs ls h1 h2 h3)
theorem v_lookup (X : Cx p R s m args meth c own cc nL ret D ad cy) {dflt : Int} {ps : Array (Int × Int)} {len : Nat} {x : Int32} {off : Int} (tgt : Nat) (hd : decode cc pc = .ok (.lookupswitch dflt ps, len)) (hp : (ps.toList.zip (ps.toList.drop 1)).all (fun (a, next) => a.1 < next.1) = true) (ho : Op.lookupswitch.offset ps.toList dflt x.toInt = off) (ht : (pc : Int) + off = (tgt : Int)) (k : Vy p l e R s m args below meth c nL D ad cy Q tgt lc st g) : Vy p l e R s m args below meth c nL D ad cy Q pc lc (.int x :: st) g :=
  fun H locs ls h1 h2 h3 => lv_lookup X.1 X.2.1 hd hp ho ht (k H locs ls h1 h2 h3)
theorem v_get (X : Cx p R s m args meth c own cc nL ret D ad cy) {a b d index fi N : Nat} {C : String} {T : u_T} {v : Value} (hk : ((a, b, d) : Ky) ∈ keys) (h9 : a < 9) (hC : vwCl[a]? = some (C, T, N)) (hin : ∀ w ∈ u_ws C T N, w ∈ lwg) (hfi : fi < N) (hl : Cond.fieldLink own index (T fi).1 (T fi).2.1 (T fi).2.2.1 ∈ lwg) (hv : (cellO ad g a b d)[fi]? = some v) (hd : decode cc pc = .ok (.getfield index, 3)) (k : Vy p l e R s m args below meth c nL D ad cy Q (pc + 3) lc (v :: st) g) : Vy p l e R s m args below meth c nL D ad cy Q pc lc (.ref (ad (a, b, d)) :: st) g := by
  intro H locs ls h1 h2 h3
  obtain ⟨q0, -, hq⟩ := Wd_at ad cy g hk
  have he : cellW ad cy g (a, b, d) = .inr (a, cellO ad g a b d) := by simp [cellW, h9]
  rw [he] at hq
  exact va_get (D := D) X.1 X.2.1 X.2.2.2.2.2.2.1 hin X.2.2.2.2.2.1 X.2.2.2.2.2.2.2.1 h1 q0 hq hC fi hfi (X.2.2.2.2.2.2.1 _ hl) (fun _ h => h) hv hd (k H locs ls h1 h2 h3)
theorem v_put (X : Cx p R s m args meth c own cc nL ret D ad cy) {a b d index fi N : Nat} {C : String} {T : u_T} {ty : FieldType} {v : Value} (g' : GS) (hk : ((a, b, d) : Ky) ∈ keys) (h9 : a < 9) (hC : vwCl[a]? = some (C, T, N)) (hin : ∀ w ∈ u_ws C T N, w ∈ lwg) (ty0 : Nat → FieldType) (hty : ∀ k, k < N → parseFieldDescriptor (T k).2.2.1 = some (ty0 k)) (hnm : ∀ a, a < N → ∀ b, b < N → a ≠ b → (T a).2.1 ≠ (T b).2.1) (hfi : fi < N) (hl : Cond.fieldLink own index (T fi).1 (T fi).2.1 (T fi).2.2.1 ∈ lwg) (hfin : (T fi).2.2.2 = false) (hpd : parseFieldDescriptor (T fi).2.2.1 = some ty) (hnar : narrow ty v = v) (hfit : fits ty v = true) (hlen : fi < (cellO ad g a b d).length) (hg1 : cellO ad g' a b d = (cellO ad g a b d).set fi v) (hg2 : ∀ k' ∈ keys, k' ≠ (a, b, d) → cellW ad cy g' k' = cellW ad cy g k') (hd : decode cc pc = .ok (.putfield index, 3)) (k : Vy p l e R s m args below meth c nL D ad cy Q (pc + 3) lc st g') : Vy p l e R s m args below meth c nL D ad cy Q pc lc (v :: .ref (ad (a, b, d)) :: st) g := by
  intro H locs ls h1 h2 h3
  obtain ⟨q0, hq1, hq⟩ := Wd_at ad cy g hk
  have he : cellW ad cy g (a, b, d) = .inr (a, cellO ad g a b d) := by simp [cellW, h9]
  rw [he] at hq
  refine va_put (D := D) X.1 X.2.1 X.2.2.2.2.2.2.1 hin ty0 hty hnm X.2.2.2.2.2.1 X.2.2.2.2.2.2.2.1 h1 (Wd_D X.2.2.2.2.2.2.2.2 cy g s.heap.size) h2 q0 hq hC fi hfi (X.2.2.2.2.2.2.1 _ hl) (fun _ h => h) hfin hpd hnar hfit hlen hd (fun H1 locs1 hP _ hS => ?_)
  have he' : cellW ad cy g' (a, b, d) = .inr (a, (cellO ad g a b d).set fi v) := by simp [cellW, h9, hg1]
  rw [Wd_set hq1 he' hg2] at hP
  exact k H1 locs1 ls hP hS h3
theorem v_iald (X : Cx p R s m args meth c own cc nL ret D ad cy) {b d n : Nat} {f : Nat → Int32} {i : Int32} (j : Nat) (hk : ((9, b, d) : Ky) ∈ keys) (ha : arrI g b d = (n, f)) (hi : i = nI j) (hj : j < n) (hn : n < 2 ^ 31) (hd : decode cc pc = .ok (.iaload, 1)) (k : Vy p l e R s m args below meth c nL D ad cy Q (pc + 1) lc (.int (f j) :: st) g) : Vy p l e R s m args below meth c nL D ad cy Q pc lc (.int i :: .ref (ad (9, b, d)) :: st) g := by
  intro H locs ls h1 h2 h3
  obtain ⟨q0, -, hq⟩ := Wd_at ad cy g hk
  have he : cellW ad cy g (9, b, d) = .inl (cy 0, n, .inl f) := by simp [cellW, ha]
  rw [he] at hq
  subst hi
  refine va_iald (D := D) X.1 X.2.1 X.2.2.2.2.2.2.2.1 h1 q0 0 hq rfl (vp_in_nI hj hn) hd ?_
  rw [nI_clamp (by omega)]
  exact k H locs ls h1 h2 h3
theorem v_iast (X : Cx p R s m args meth c own cc nL ret D ad cy) {b d n : Nat} {f : Nat → Int32} {i x : Int32} (j : Nat) (g' : GS) (hk : ((9, b, d) : Ky) ∈ keys) (ha : arrI g b d = (n, f)) (hi : i = nI j) (hj : j < n) (hn : n < 2 ^ 31) (hg1 : arrI g' b d = (n, va_up f j x)) (hg2 : ∀ k' ∈ keys, k' ≠ (9, b, d) → cellW ad cy g' k' = cellW ad cy g k') (hd : decode cc pc = .ok (.iastore, 1)) (k : Vy p l e R s m args below meth c nL D ad cy Q (pc + 1) lc st g') : Vy p l e R s m args below meth c nL D ad cy Q pc lc (.int x :: .int i :: .ref (ad (9, b, d)) :: st) g := by
  intro H locs ls h1 h2 h3
  obtain ⟨q0, hq1, hq⟩ := Wd_at ad cy g hk
  have he : cellW ad cy g (9, b, d) = .inl (cy 0, n, .inl f) := by simp [cellW, ha]
  rw [he] at hq
  subst hi
  refine va_iast (D := D) X.1 X.2.1 X.2.2.2.2.2.2.2.1 h1 (Wd_D X.2.2.2.2.2.2.2.2 cy g s.heap.size) h2 q0 0 hq rfl (vp_in_nI hj hn) hd (fun H1 locs1 hP _ hS => ?_)
  rw [nI_clamp (by omega)] at hP
  have he' : cellW ad cy g' (9, b, d) = .inl (cy 0, n, .inl (upd f j x)) := by simp only [cellW, hg1]; rfl
  rw [Wd_set hq1 he' hg2] at hP
  exact k H1 locs1 ls hP hS h3
theorem v_aald (X : Cx p R s m args meth c own cc nL ret D ad cy) {a b d n t0 : Nat} {f : Nat → Option Nat} {C : String} {i : Int32} {y : Nat} (j : Nat) (hk : ((a, b, d) : Ky) ∈ keys) (h9 : 10 < a) (ha : arrR ad a b d = (n, f)) (ht : (tysA cy)[t0]? = some (cy (a - 9), .object C)) (hi : i = nI j) (hj : j < n) (hn : n < 2 ^ 31) (hy : f j = some y) (hd : decode cc pc = .ok (.aaload, 1)) (k : Vy p l e R s m args below meth c nL D ad cy Q (pc + 1) lc (.ref y :: st) g) : Vy p l e R s m args below meth c nL D ad cy Q pc lc (.int i :: .ref (ad (a, b, d)) :: st) g := by
  intro H locs ls h1 h2 h3
  obtain ⟨q0, -, hq⟩ := Wd_at ad cy g hk
  have he : cellW ad cy g (a, b, d) = .inl (cy (a - 9), n, .inr (.inr (.inr (.inr f)))) := by
    have e1 : ¬ a < 9 := by omega
    have e2 : ¬ a = 9 := by omega
    have e3 : ¬ a = 10 := by omega
    simp [cellW, ha, e1, e2, e3]
  rw [he] at hq
  subst hi
  refine va_aldq (D := D) X.1 X.2.1 X.2.2.2.2.2.2.2.1 h1 q0 t0 hq ht (vp_in_nI hj hn) hd ?_
  rw [nI_clamp (by omega), hy]
  exact k H locs ls h1 h2 h3
end VY
end
