section
/-- a private method of a class that the tables say can be made, by its rows of tables_1 -/
def lw_okq (q : MethodName × Nat) : Prop := (q.1.cls ≠ "java/lang/invoke/MethodHandle" ∧ q.1.cls ≠ "java/lang/invoke/VarHandle") ∧ Cond.instantiable q.1.cls q.2 ∈ tables_1 ∧ Cond.privateMethod q.1 ∈ tables_1 ∧ Cond.instanceMethod q.1 ∈ tables_1
theorem lw_p0 : lw_okq (⟨"OneWindow", "faultOfTape", "(I)I"⟩, 20) := ⟨⟨by decide +kernel, by decide +kernel⟩, List.mem_of_getElem? (i := 27) (by decide +kernel), List.mem_of_getElem? (i := 298) (by decide +kernel), List.mem_of_getElem? (i := 299) (by decide +kernel)⟩
theorem lw_p1 : lw_okq (⟨"OneWindow$Fort", "readClause", "(LOneWindow$Tape;)V"⟩, 6) := ⟨⟨by decide +kernel, by decide +kernel⟩, List.mem_of_getElem? (i := 57) (by decide +kernel), List.mem_of_getElem? (i := 315) (by decide +kernel), List.mem_of_getElem? (i := 316) (by decide +kernel)⟩
theorem lw_p2 : lw_okq (⟨"OneWindow$Tape", "here", "()I"⟩, 4) := ⟨⟨by decide +kernel, by decide +kernel⟩, List.mem_of_getElem? (i := 35) (by decide +kernel), List.mem_of_getElem? (i := 323) (by decide +kernel), List.mem_of_getElem? (i := 324) (by decide +kernel)⟩
theorem lw_p3 : lw_okq (⟨"OneWindow$Fort", "readItems", "(LOneWindow$Tape;Ljava/lang/String;[I[I[II)V"⟩, 6) := ⟨⟨by decide +kernel, by decide +kernel⟩, List.mem_of_getElem? (i := 57) (by decide +kernel), List.mem_of_getElem? (i := 336) (by decide +kernel), List.mem_of_getElem? (i := 337) (by decide +kernel)⟩
theorem lw_p4 : lw_okq (⟨"OneWindow$Tape", "failAt", "(I)V"⟩, 4) := ⟨⟨by decide +kernel, by decide +kernel⟩, List.mem_of_getElem? (i := 35) (by decide +kernel), List.mem_of_getElem? (i := 436) (by decide +kernel), List.mem_of_getElem? (i := 437) (by decide +kernel)⟩
theorem lw_p5 : lw_okq (⟨"OneWindow$Law", "readClause", "(LOneWindow$Tape;)V"⟩, 3) := ⟨⟨by decide +kernel, by decide +kernel⟩, List.mem_of_getElem? (i := 92) (by decide +kernel), List.mem_of_getElem? (i := 478) (by decide +kernel), List.mem_of_getElem? (i := 479) (by decide +kernel)⟩
theorem lw_p6 : lw_okq (⟨"OneWindow$Law", "readSum", "(LOneWindow$Tape;I)V"⟩, 3) := ⟨⟨by decide +kernel, by decide +kernel⟩, List.mem_of_getElem? (i := 92) (by decide +kernel), List.mem_of_getElem? (i := 488) (by decide +kernel), List.mem_of_getElem? (i := 489) (by decide +kernel)⟩
theorem lw_p7 : lw_okq (⟨"OneWindow$Law", "readTerm", "(LOneWindow$Tape;I)V"⟩, 3) := ⟨⟨by decide +kernel, by decide +kernel⟩, List.mem_of_getElem? (i := 92) (by decide +kernel), List.mem_of_getElem? (i := 492) (by decide +kernel), List.mem_of_getElem? (i := 493) (by decide +kernel)⟩
theorem lw_p8 : lw_okq (⟨"OneWindow$Law", "readAtom", "(LOneWindow$Tape;I)V"⟩, 3) := ⟨⟨by decide +kernel, by decide +kernel⟩, List.mem_of_getElem? (i := 92) (by decide +kernel), List.mem_of_getElem? (i := 496) (by decide +kernel), List.mem_of_getElem? (i := 497) (by decide +kernel)⟩
theorem lw_p9 : lw_okq (⟨"OneWindow$Law", "put", "(I)V"⟩, 3) := ⟨⟨by decide +kernel, by decide +kernel⟩, List.mem_of_getElem? (i := 92) (by decide +kernel), List.mem_of_getElem? (i := 505) (by decide +kernel), List.mem_of_getElem? (i := 506) (by decide +kernel)⟩
theorem lw_p10 : lw_okq (⟨"OneWindow$Law", "readCondition", "(LOneWindow$Tape;IZ)V"⟩, 3) := ⟨⟨by decide +kernel, by decide +kernel⟩, List.mem_of_getElem? (i := 92) (by decide +kernel), List.mem_of_getElem? (i := 517) (by decide +kernel), List.mem_of_getElem? (i := 518) (by decide +kernel)⟩
theorem lw_p11 : lw_okq (⟨"OneWindow$Law", "readTruth", "(LOneWindow$Tape;IZ)V"⟩, 3) := ⟨⟨by decide +kernel, by decide +kernel⟩, List.mem_of_getElem? (i := 92) (by decide +kernel), List.mem_of_getElem? (i := 521) (by decide +kernel), List.mem_of_getElem? (i := 522) (by decide +kernel)⟩
theorem lw_p12 : lw_okq (⟨"OneWindow$Law", "readUnit", "(LOneWindow$Tape;IZ)V"⟩, 3) := ⟨⟨by decide +kernel, by decide +kernel⟩, List.mem_of_getElem? (i := 92) (by decide +kernel), List.mem_of_getElem? (i := 525) (by decide +kernel), List.mem_of_getElem? (i := 526) (by decide +kernel)⟩
theorem lw_p13 : lw_okq (⟨"OneWindow$Plan", "readStep", "(LOneWindow$Tape;I)V"⟩, 2) := ⟨⟨by decide +kernel, by decide +kernel⟩, List.mem_of_getElem? (i := 107) (by decide +kernel), List.mem_of_getElem? (i := 535) (by decide +kernel), List.mem_of_getElem? (i := 536) (by decide +kernel)⟩
theorem lw_p14 : lw_okq (⟨"OneWindow", "openFort", "()I"⟩, 20) := ⟨⟨by decide +kernel, by decide +kernel⟩, List.mem_of_getElem? (i := 27) (by decide +kernel), List.mem_of_getElem? (i := 554) (by decide +kernel), List.mem_of_getElem? (i := 555) (by decide +kernel)⟩
theorem lw_p15 : lw_okq (⟨"OneWindow", "hasFort", "()Z"⟩, 20) := ⟨⟨by decide +kernel, by decide +kernel⟩, List.mem_of_getElem? (i := 27) (by decide +kernel), List.mem_of_getElem? (i := 586) (by decide +kernel), List.mem_of_getElem? (i := 587) (by decide +kernel)⟩
def lw_privs_1 : List (MethodName × Nat) := [(⟨"OneWindow", "faultOfTape", "(I)I"⟩, 20), (⟨"OneWindow$Fort", "readClause", "(LOneWindow$Tape;)V"⟩, 6), (⟨"OneWindow$Tape", "here", "()I"⟩, 4), (⟨"OneWindow$Fort", "readItems", "(LOneWindow$Tape;Ljava/lang/String;[I[I[II)V"⟩, 6), (⟨"OneWindow$Tape", "failAt", "(I)V"⟩, 4), (⟨"OneWindow$Law", "readClause", "(LOneWindow$Tape;)V"⟩, 3), (⟨"OneWindow$Law", "readSum", "(LOneWindow$Tape;I)V"⟩, 3), (⟨"OneWindow$Law", "readTerm", "(LOneWindow$Tape;I)V"⟩, 3), (⟨"OneWindow$Law", "readAtom", "(LOneWindow$Tape;I)V"⟩, 3), (⟨"OneWindow$Law", "put", "(I)V"⟩, 3), (⟨"OneWindow$Law", "readCondition", "(LOneWindow$Tape;IZ)V"⟩, 3), (⟨"OneWindow$Law", "readTruth", "(LOneWindow$Tape;IZ)V"⟩, 3), (⟨"OneWindow$Law", "readUnit", "(LOneWindow$Tape;IZ)V"⟩, 3), (⟨"OneWindow$Plan", "readStep", "(LOneWindow$Tape;I)V"⟩, 2), (⟨"OneWindow", "openFort", "()I"⟩, 20), (⟨"OneWindow", "hasFort", "()Z"⟩, 20)]
theorem lw_r1 : ∀ q ∈ lw_privs_1, lw_okq q := List.forall_mem_cons.mpr ⟨lw_p0, List.forall_mem_cons.mpr ⟨lw_p1, List.forall_mem_cons.mpr ⟨lw_p2, List.forall_mem_cons.mpr ⟨lw_p3, List.forall_mem_cons.mpr ⟨lw_p4, List.forall_mem_cons.mpr ⟨lw_p5, List.forall_mem_cons.mpr ⟨lw_p6, List.forall_mem_cons.mpr ⟨lw_p7, List.forall_mem_cons.mpr ⟨lw_p8, List.forall_mem_cons.mpr ⟨lw_p9, List.forall_mem_cons.mpr ⟨lw_p10, List.forall_mem_cons.mpr ⟨lw_p11, List.forall_mem_cons.mpr ⟨lw_p12, List.forall_mem_cons.mpr ⟨lw_p13, List.forall_mem_cons.mpr ⟨lw_p14, List.forall_mem_cons.mpr ⟨lw_p15, fun _ h => absurd h List.not_mem_nil⟩⟩⟩⟩⟩⟩⟩⟩⟩⟩⟩⟩⟩⟩⟩⟩
theorem lw_p16 : lw_okq (⟨"OneWindow", "isCell", "(I)Z"⟩, 20) := ⟨⟨by decide +kernel, by decide +kernel⟩, List.mem_of_getElem? (i := 27) (by decide +kernel), List.mem_of_getElem? (i := 594) (by decide +kernel), List.mem_of_getElem? (i := 595) (by decide +kernel)⟩
theorem lw_p17 : lw_okq (⟨"OneWindow", "isEvent", "(I)Z"⟩, 20) := ⟨⟨by decide +kernel, by decide +kernel⟩, List.mem_of_getElem? (i := 27) (by decide +kernel), List.mem_of_getElem? (i := 606) (by decide +kernel), List.mem_of_getElem? (i := 607) (by decide +kernel)⟩
theorem lw_p18 : lw_okq (⟨"OneWindow", "logged", "()I"⟩, 20) := ⟨⟨by decide +kernel, by decide +kernel⟩, List.mem_of_getElem? (i := 27) (by decide +kernel), List.mem_of_getElem? (i := 634) (by decide +kernel), List.mem_of_getElem? (i := 635) (by decide +kernel)⟩
theorem lw_p19 : lw_okq (⟨"OneWindow", "teller", "()I"⟩, 20) := ⟨⟨by decide +kernel, by decide +kernel⟩, List.mem_of_getElem? (i := 27) (by decide +kernel), List.mem_of_getElem? (i := 647) (by decide +kernel), List.mem_of_getElem? (i := 648) (by decide +kernel)⟩
theorem lw_p20 : lw_okq (⟨"OneWindow", "acted", "(III)Z"⟩, 20) := ⟨⟨by decide +kernel, by decide +kernel⟩, List.mem_of_getElem? (i := 27) (by decide +kernel), List.mem_of_getElem? (i := 661) (by decide +kernel), List.mem_of_getElem? (i := 662) (by decide +kernel)⟩
theorem lw_p21 : lw_okq (⟨"OneWindow", "canBe", "(LOneWindow$Scene;III)Z"⟩, 20) := ⟨⟨by decide +kernel, by decide +kernel⟩, List.mem_of_getElem? (i := 27) (by decide +kernel), List.mem_of_getElem? (i := 665) (by decide +kernel), List.mem_of_getElem? (i := 666) (by decide +kernel)⟩
theorem lw_p22 : lw_okq (⟨"OneWindow", "isPrisoner", "(I)Z"⟩, 20) := ⟨⟨by decide +kernel, by decide +kernel⟩, List.mem_of_getElem? (i := 27) (by decide +kernel), List.mem_of_getElem? (i := 669) (by decide +kernel), List.mem_of_getElem? (i := 670) (by decide +kernel)⟩
theorem lw_p23 : lw_okq (⟨"OneWindow", "change", "(LOneWindow$Scene;III)V"⟩, 20) := ⟨⟨by decide +kernel, by decide +kernel⟩, List.mem_of_getElem? (i := 27) (by decide +kernel), List.mem_of_getElem? (i := 691) (by decide +kernel), List.mem_of_getElem? (i := 692) (by decide +kernel)⟩
theorem lw_p24 : lw_okq (⟨"OneWindow", "lawNow", "()LOneWindow$Law;"⟩, 20) := ⟨⟨by decide +kernel, by decide +kernel⟩, List.mem_of_getElem? (i := 27) (by decide +kernel), List.mem_of_getElem? (i := 703) (by decide +kernel), List.mem_of_getElem? (i := 704) (by decide +kernel)⟩
theorem lw_p25 : lw_okq (⟨"OneWindow$Knocking", "behind", "(IIILOneWindow$Law;)I"⟩, 3) := ⟨⟨by decide +kernel, by decide +kernel⟩, List.mem_of_getElem? (i := 162) (by decide +kernel), List.mem_of_getElem? (i := 737) (by decide +kernel), List.mem_of_getElem? (i := 738) (by decide +kernel)⟩
theorem lw_p26 : lw_okq (⟨"OneWindow$Law", "stacked", "(II)I"⟩, 3) := ⟨⟨by decide +kernel, by decide +kernel⟩, List.mem_of_getElem? (i := 92) (by decide +kernel), List.mem_of_getElem? (i := 745) (by decide +kernel), List.mem_of_getElem? (i := 746) (by decide +kernel)⟩
theorem lw_p27 : lw_okq (⟨"OneWindow$Law", "clauseEnd", "(I)I"⟩, 3) := ⟨⟨by decide +kernel, by decide +kernel⟩, List.mem_of_getElem? (i := 92) (by decide +kernel), List.mem_of_getElem? (i := 749) (by decide +kernel), List.mem_of_getElem? (i := 750) (by decide +kernel)⟩
theorem lw_p28 : lw_okq (⟨"OneWindow$Knocking", "hear", "(LOneWindow$Scene;IIII)V"⟩, 3) := ⟨⟨by decide +kernel, by decide +kernel⟩, List.mem_of_getElem? (i := 162) (by decide +kernel), List.mem_of_getElem? (i := 770) (by decide +kernel), List.mem_of_getElem? (i := 771) (by decide +kernel)⟩
theorem lw_p29 : lw_okq (⟨"OneWindow", "canSpend", "(I)Z"⟩, 20) := ⟨⟨by decide +kernel, by decide +kernel⟩, List.mem_of_getElem? (i := 27) (by decide +kernel), List.mem_of_getElem? (i := 812) (by decide +kernel), List.mem_of_getElem? (i := 813) (by decide +kernel)⟩
theorem lw_p30 : lw_okq (⟨"OneWindow", "drawDay", "()V"⟩, 20) := ⟨⟨by decide +kernel, by decide +kernel⟩, List.mem_of_getElem? (i := 27) (by decide +kernel), List.mem_of_getElem? (i := 820) (by decide +kernel), List.mem_of_getElem? (i := 821) (by decide +kernel)⟩
theorem lw_p31 : lw_okq (⟨"OneWindow", "drawOfTen", "()I"⟩, 20) := ⟨⟨by decide +kernel, by decide +kernel⟩, List.mem_of_getElem? (i := 27) (by decide +kernel), List.mem_of_getElem? (i := 824) (by decide +kernel), List.mem_of_getElem? (i := 825) (by decide +kernel)⟩
def lw_privs_2 : List (MethodName × Nat) := [(⟨"OneWindow", "isCell", "(I)Z"⟩, 20), (⟨"OneWindow", "isEvent", "(I)Z"⟩, 20), (⟨"OneWindow", "logged", "()I"⟩, 20), (⟨"OneWindow", "teller", "()I"⟩, 20), (⟨"OneWindow", "acted", "(III)Z"⟩, 20), (⟨"OneWindow", "canBe", "(LOneWindow$Scene;III)Z"⟩, 20), (⟨"OneWindow", "isPrisoner", "(I)Z"⟩, 20), (⟨"OneWindow", "change", "(LOneWindow$Scene;III)V"⟩, 20), (⟨"OneWindow", "lawNow", "()LOneWindow$Law;"⟩, 20), (⟨"OneWindow$Knocking", "behind", "(IIILOneWindow$Law;)I"⟩, 3), (⟨"OneWindow$Law", "stacked", "(II)I"⟩, 3), (⟨"OneWindow$Law", "clauseEnd", "(I)I"⟩, 3), (⟨"OneWindow$Knocking", "hear", "(LOneWindow$Scene;IIII)V"⟩, 3), (⟨"OneWindow", "canSpend", "(I)Z"⟩, 20), (⟨"OneWindow", "drawDay", "()V"⟩, 20), (⟨"OneWindow", "drawOfTen", "()I"⟩, 20)]
theorem lw_r2 : ∀ q ∈ lw_privs_2, lw_okq q := List.forall_mem_cons.mpr ⟨lw_p16, List.forall_mem_cons.mpr ⟨lw_p17, List.forall_mem_cons.mpr ⟨lw_p18, List.forall_mem_cons.mpr ⟨lw_p19, List.forall_mem_cons.mpr ⟨lw_p20, List.forall_mem_cons.mpr ⟨lw_p21, List.forall_mem_cons.mpr ⟨lw_p22, List.forall_mem_cons.mpr ⟨lw_p23, List.forall_mem_cons.mpr ⟨lw_p24, List.forall_mem_cons.mpr ⟨lw_p25, List.forall_mem_cons.mpr ⟨lw_p26, List.forall_mem_cons.mpr ⟨lw_p27, List.forall_mem_cons.mpr ⟨lw_p28, List.forall_mem_cons.mpr ⟨lw_p29, List.forall_mem_cons.mpr ⟨lw_p30, List.forall_mem_cons.mpr ⟨lw_p31, fun _ h => absurd h List.not_mem_nil⟩⟩⟩⟩⟩⟩⟩⟩⟩⟩⟩⟩⟩⟩⟩⟩
theorem lw_p32 : lw_okq (⟨"OneWindow", "worthiestBut", "(I)I"⟩, 20) := ⟨⟨by decide +kernel, by decide +kernel⟩, List.mem_of_getElem? (i := 27) (by decide +kernel), List.mem_of_getElem? (i := 831) (by decide +kernel), List.mem_of_getElem? (i := 832) (by decide +kernel)⟩
theorem lw_p33 : lw_okq (⟨"OneWindow", "isPlan", "(I)Z"⟩, 20) := ⟨⟨by decide +kernel, by decide +kernel⟩, List.mem_of_getElem? (i := 27) (by decide +kernel), List.mem_of_getElem? (i := 866) (by decide +kernel), List.mem_of_getElem? (i := 867) (by decide +kernel)⟩
theorem lw_p34 : lw_okq (⟨"OneWindow", "ranApart", "(LOneWindow$Plan;I)Z"⟩, 20) := ⟨⟨by decide +kernel, by decide +kernel⟩, List.mem_of_getElem? (i := 27) (by decide +kernel), List.mem_of_getElem? (i := 878) (by decide +kernel), List.mem_of_getElem? (i := 879) (by decide +kernel)⟩
theorem lw_p35 : lw_okq (⟨"OneWindow", "hearersFrom", "(II)I"⟩, 20) := ⟨⟨by decide +kernel, by decide +kernel⟩, List.mem_of_getElem? (i := 27) (by decide +kernel), List.mem_of_getElem? (i := 899) (by decide +kernel), List.mem_of_getElem? (i := 900) (by decide +kernel)⟩
theorem lw_p36 : lw_okq (⟨"OneWindow", "seatOf", "(I)I"⟩, 20) := ⟨⟨by decide +kernel, by decide +kernel⟩, List.mem_of_getElem? (i := 27) (by decide +kernel), List.mem_of_getElem? (i := 923) (by decide +kernel), List.mem_of_getElem? (i := 924) (by decide +kernel)⟩
theorem lw_p37 : lw_okq (⟨"OneWindow", "gainApart", "(I)I"⟩, 20) := ⟨⟨by decide +kernel, by decide +kernel⟩, List.mem_of_getElem? (i := 27) (by decide +kernel), List.mem_of_getElem? (i := 927) (by decide +kernel), List.mem_of_getElem? (i := 928) (by decide +kernel)⟩
theorem lw_p38 : lw_okq (⟨"OneWindow", "canBuy", "(II)Z"⟩, 20) := ⟨⟨by decide +kernel, by decide +kernel⟩, List.mem_of_getElem? (i := 27) (by decide +kernel), List.mem_of_getElem? (i := 947) (by decide +kernel), List.mem_of_getElem? (i := 948) (by decide +kernel)⟩
theorem lw_p39 : lw_okq (⟨"OneWindow", "hearApart", "()V"⟩, 20) := ⟨⟨by decide +kernel, by decide +kernel⟩, List.mem_of_getElem? (i := 27) (by decide +kernel), List.mem_of_getElem? (i := 951) (by decide +kernel), List.mem_of_getElem? (i := 952) (by decide +kernel)⟩
theorem lw_p40 : lw_okq (⟨"OneWindow", "has", "(IIII)I"⟩, 20) := ⟨⟨by decide +kernel, by decide +kernel⟩, List.mem_of_getElem? (i := 27) (by decide +kernel), List.mem_of_getElem? (i := 955) (by decide +kernel), List.mem_of_getElem? (i := 956) (by decide +kernel)⟩
theorem lw_p41 : lw_okq (⟨"OneWindow$Codebook", "tryLengths", "(LOneWindow$Fort;IIII)V"⟩, 3) := ⟨⟨by decide +kernel, by decide +kernel⟩, List.mem_of_getElem? (i := 197) (by decide +kernel), List.mem_of_getElem? (i := 972) (by decide +kernel), List.mem_of_getElem? (i := 973) (by decide +kernel)⟩
theorem lw_p42 : lw_okq (⟨"OneWindow", "fewestLiars", "()I"⟩, 20) := ⟨⟨by decide +kernel, by decide +kernel⟩, List.mem_of_getElem? (i := 27) (by decide +kernel), List.mem_of_getElem? (i := 1005) (by decide +kernel), List.mem_of_getElem? (i := 1006) (by decide +kernel)⟩
theorem lw_p43 : lw_okq (⟨"OneWindow", "allTruths", "()I"⟩, 20) := ⟨⟨by decide +kernel, by decide +kernel⟩, List.mem_of_getElem? (i := 27) (by decide +kernel), List.mem_of_getElem? (i := 1009) (by decide +kernel), List.mem_of_getElem? (i := 1010) (by decide +kernel)⟩
theorem lw_p44 : lw_okq (⟨"OneWindow", "liarsBy", "(I)I"⟩, 20) := ⟨⟨by decide +kernel, by decide +kernel⟩, List.mem_of_getElem? (i := 27) (by decide +kernel), List.mem_of_getElem? (i := 1013) (by decide +kernel), List.mem_of_getElem? (i := 1014) (by decide +kernel)⟩
theorem lw_p45 : lw_okq (⟨"OneWindow", "canDoubt", "(I)Z"⟩, 20) := ⟨⟨by decide +kernel, by decide +kernel⟩, List.mem_of_getElem? (i := 27) (by decide +kernel), List.mem_of_getElem? (i := 1029) (by decide +kernel), List.mem_of_getElem? (i := 1030) (by decide +kernel)⟩
theorem lw_p46 : lw_okq (⟨"OneWindow", "yesLessNo", "(II)I"⟩, 20) := ⟨⟨by decide +kernel, by decide +kernel⟩, List.mem_of_getElem? (i := 27) (by decide +kernel), List.mem_of_getElem? (i := 1041) (by decide +kernel), List.mem_of_getElem? (i := 1042) (by decide +kernel)⟩
theorem lw_p47 : lw_okq (⟨"OneWindow", "likelihood", "(I)J"⟩, 20) := ⟨⟨by decide +kernel, by decide +kernel⟩, List.mem_of_getElem? (i := 27) (by decide +kernel), List.mem_of_getElem? (i := 1056) (by decide +kernel), List.mem_of_getElem? (i := 1057) (by decide +kernel)⟩
def lw_privs_3 : List (MethodName × Nat) := [(⟨"OneWindow", "worthiestBut", "(I)I"⟩, 20), (⟨"OneWindow", "isPlan", "(I)Z"⟩, 20), (⟨"OneWindow", "ranApart", "(LOneWindow$Plan;I)Z"⟩, 20), (⟨"OneWindow", "hearersFrom", "(II)I"⟩, 20), (⟨"OneWindow", "seatOf", "(I)I"⟩, 20), (⟨"OneWindow", "gainApart", "(I)I"⟩, 20), (⟨"OneWindow", "canBuy", "(II)Z"⟩, 20), (⟨"OneWindow", "hearApart", "()V"⟩, 20), (⟨"OneWindow", "has", "(IIII)I"⟩, 20), (⟨"OneWindow$Codebook", "tryLengths", "(LOneWindow$Fort;IIII)V"⟩, 3), (⟨"OneWindow", "fewestLiars", "()I"⟩, 20), (⟨"OneWindow", "allTruths", "()I"⟩, 20), (⟨"OneWindow", "liarsBy", "(I)I"⟩, 20), (⟨"OneWindow", "canDoubt", "(I)Z"⟩, 20), (⟨"OneWindow", "yesLessNo", "(II)I"⟩, 20), (⟨"OneWindow", "likelihood", "(I)J"⟩, 20)]
theorem lw_r3 : ∀ q ∈ lw_privs_3, lw_okq q := List.forall_mem_cons.mpr ⟨lw_p32, List.forall_mem_cons.mpr ⟨lw_p33, List.forall_mem_cons.mpr ⟨lw_p34, List.forall_mem_cons.mpr ⟨lw_p35, List.forall_mem_cons.mpr ⟨lw_p36, List.forall_mem_cons.mpr ⟨lw_p37, List.forall_mem_cons.mpr ⟨lw_p38, List.forall_mem_cons.mpr ⟨lw_p39, List.forall_mem_cons.mpr ⟨lw_p40, List.forall_mem_cons.mpr ⟨lw_p41, List.forall_mem_cons.mpr ⟨lw_p42, List.forall_mem_cons.mpr ⟨lw_p43, List.forall_mem_cons.mpr ⟨lw_p44, List.forall_mem_cons.mpr ⟨lw_p45, List.forall_mem_cons.mpr ⟨lw_p46, List.forall_mem_cons.mpr ⟨lw_p47, fun _ h => absurd h List.not_mem_nil⟩⟩⟩⟩⟩⟩⟩⟩⟩⟩⟩⟩⟩⟩⟩⟩
theorem lw_p48 : lw_okq (⟨"java/lang/Throwable", "fillInStackTrace", "(I)Ljava/lang/Throwable;"⟩, 6) := ⟨⟨by decide +kernel, by decide +kernel⟩, List.mem_of_getElem? (i := 1117) (by decide +kernel), List.mem_of_getElem? (i := 1115) (by decide +kernel), List.mem_of_getElem? (i := 1116) (by decide +kernel)⟩
theorem lw_p49 : lw_okq (⟨"OneWindowModel", "put", "(I)V"⟩, 48) := ⟨⟨by decide +kernel, by decide +kernel⟩, List.mem_of_getElem? (i := 1148) (by decide +kernel), List.mem_of_getElem? (i := 1313) (by decide +kernel), List.mem_of_getElem? (i := 1314) (by decide +kernel)⟩
theorem lw_p50 : lw_okq (⟨"OneWindowModel", "readFort", "()V"⟩, 48) := ⟨⟨by decide +kernel, by decide +kernel⟩, List.mem_of_getElem? (i := 1148) (by decide +kernel), List.mem_of_getElem? (i := 1329) (by decide +kernel), List.mem_of_getElem? (i := 1330) (by decide +kernel)⟩
theorem lw_p51 : lw_okq (⟨"OneWindowModel", "starts", "([BII)V"⟩, 48) := ⟨⟨by decide +kernel, by decide +kernel⟩, List.mem_of_getElem? (i := 1148) (by decide +kernel), List.mem_of_getElem? (i := 1333) (by decide +kernel), List.mem_of_getElem? (i := 1334) (by decide +kernel)⟩
theorem lw_p52 : lw_okq (⟨"OneWindowModel", "readClause", "()V"⟩, 48) := ⟨⟨by decide +kernel, by decide +kernel⟩, List.mem_of_getElem? (i := 1148) (by decide +kernel), List.mem_of_getElem? (i := 1340) (by decide +kernel), List.mem_of_getElem? (i := 1341) (by decide +kernel)⟩
theorem lw_p53 : lw_okq (⟨"OneWindowModel", "look", "()I"⟩, 48) := ⟨⟨by decide +kernel, by decide +kernel⟩, List.mem_of_getElem? (i := 1148) (by decide +kernel), List.mem_of_getElem? (i := 1344) (by decide +kernel), List.mem_of_getElem? (i := 1345) (by decide +kernel)⟩
theorem lw_p54 : lw_okq (⟨"OneWindowModel", "fails", "()Z"⟩, 48) := ⟨⟨by decide +kernel, by decide +kernel⟩, List.mem_of_getElem? (i := 1148) (by decide +kernel), List.mem_of_getElem? (i := 1348) (by decide +kernel), List.mem_of_getElem? (i := 1349) (by decide +kernel)⟩
theorem lw_p55 : lw_okq (⟨"OneWindowModel", "readItems", "(I[IILjava/lang/String;)V"⟩, 48) := ⟨⟨by decide +kernel, by decide +kernel⟩, List.mem_of_getElem? (i := 1148) (by decide +kernel), List.mem_of_getElem? (i := 1353) (by decide +kernel), List.mem_of_getElem? (i := 1354) (by decide +kernel)⟩
theorem lw_p56 : lw_okq (⟨"OneWindowModel", "number", "(II)I"⟩, 48) := ⟨⟨by decide +kernel, by decide +kernel⟩, List.mem_of_getElem? (i := 1148) (by decide +kernel), List.mem_of_getElem? (i := 1390) (by decide +kernel), List.mem_of_getElem? (i := 1391) (by decide +kernel)⟩
theorem lw_p57 : lw_okq (⟨"OneWindowModel", "isDigit", "()Z"⟩, 48) := ⟨⟨by decide +kernel, by decide +kernel⟩, List.mem_of_getElem? (i := 1148) (by decide +kernel), List.mem_of_getElem? (i := 1394) (by decide +kernel), List.mem_of_getElem? (i := 1395) (by decide +kernel)⟩
theorem lw_p58 : lw_okq (⟨"OneWindowModel", "here", "()I"⟩, 48) := ⟨⟨by decide +kernel, by decide +kernel⟩, List.mem_of_getElem? (i := 1148) (by decide +kernel), List.mem_of_getElem? (i := 1398) (by decide +kernel), List.mem_of_getElem? (i := 1399) (by decide +kernel)⟩
theorem lw_p59 : lw_okq (⟨"OneWindowModel", "goThrough", "([BII)V"⟩, 48) := ⟨⟨by decide +kernel, by decide +kernel⟩, List.mem_of_getElem? (i := 1148) (by decide +kernel), List.mem_of_getElem? (i := 1404) (by decide +kernel), List.mem_of_getElem? (i := 1405) (by decide +kernel)⟩
theorem lw_p60 : lw_okq (⟨"OneWindowModel", "clause", "()V"⟩, 48) := ⟨⟨by decide +kernel, by decide +kernel⟩, List.mem_of_getElem? (i := 1148) (by decide +kernel), List.mem_of_getElem? (i := 1408) (by decide +kernel), List.mem_of_getElem? (i := 1409) (by decide +kernel)⟩
theorem lw_p61 : lw_okq (⟨"OneWindowModel", "takes", "(I)Z"⟩, 48) := ⟨⟨by decide +kernel, by decide +kernel⟩, List.mem_of_getElem? (i := 1148) (by decide +kernel), List.mem_of_getElem? (i := 1415) (by decide +kernel), List.mem_of_getElem? (i := 1416) (by decide +kernel)⟩
theorem lw_p62 : lw_okq (⟨"OneWindowModel", "condition", "(ZI)Z"⟩, 48) := ⟨⟨by decide +kernel, by decide +kernel⟩, List.mem_of_getElem? (i := 1148) (by decide +kernel), List.mem_of_getElem? (i := 1419) (by decide +kernel), List.mem_of_getElem? (i := 1420) (by decide +kernel)⟩
theorem lw_p63 : lw_okq (⟨"OneWindowModel", "part", "(ZI)Z"⟩, 48) := ⟨⟨by decide +kernel, by decide +kernel⟩, List.mem_of_getElem? (i := 1148) (by decide +kernel), List.mem_of_getElem? (i := 1423) (by decide +kernel), List.mem_of_getElem? (i := 1424) (by decide +kernel)⟩
def lw_privs_4 : List (MethodName × Nat) := [(⟨"java/lang/Throwable", "fillInStackTrace", "(I)Ljava/lang/Throwable;"⟩, 6), (⟨"OneWindowModel", "put", "(I)V"⟩, 48), (⟨"OneWindowModel", "readFort", "()V"⟩, 48), (⟨"OneWindowModel", "starts", "([BII)V"⟩, 48), (⟨"OneWindowModel", "readClause", "()V"⟩, 48), (⟨"OneWindowModel", "look", "()I"⟩, 48), (⟨"OneWindowModel", "fails", "()Z"⟩, 48), (⟨"OneWindowModel", "readItems", "(I[IILjava/lang/String;)V"⟩, 48), (⟨"OneWindowModel", "number", "(II)I"⟩, 48), (⟨"OneWindowModel", "isDigit", "()Z"⟩, 48), (⟨"OneWindowModel", "here", "()I"⟩, 48), (⟨"OneWindowModel", "goThrough", "([BII)V"⟩, 48), (⟨"OneWindowModel", "clause", "()V"⟩, 48), (⟨"OneWindowModel", "takes", "(I)Z"⟩, 48), (⟨"OneWindowModel", "condition", "(ZI)Z"⟩, 48), (⟨"OneWindowModel", "part", "(ZI)Z"⟩, 48)]
theorem lw_r4 : ∀ q ∈ lw_privs_4, lw_okq q := List.forall_mem_cons.mpr ⟨lw_p48, List.forall_mem_cons.mpr ⟨lw_p49, List.forall_mem_cons.mpr ⟨lw_p50, List.forall_mem_cons.mpr ⟨lw_p51, List.forall_mem_cons.mpr ⟨lw_p52, List.forall_mem_cons.mpr ⟨lw_p53, List.forall_mem_cons.mpr ⟨lw_p54, List.forall_mem_cons.mpr ⟨lw_p55, List.forall_mem_cons.mpr ⟨lw_p56, List.forall_mem_cons.mpr ⟨lw_p57, List.forall_mem_cons.mpr ⟨lw_p58, List.forall_mem_cons.mpr ⟨lw_p59, List.forall_mem_cons.mpr ⟨lw_p60, List.forall_mem_cons.mpr ⟨lw_p61, List.forall_mem_cons.mpr ⟨lw_p62, List.forall_mem_cons.mpr ⟨lw_p63, fun _ h => absurd h List.not_mem_nil⟩⟩⟩⟩⟩⟩⟩⟩⟩⟩⟩⟩⟩⟩⟩⟩
theorem lw_p64 : lw_okq (⟨"OneWindowModel", "compares", "(ZI)Z"⟩, 48) := ⟨⟨by decide +kernel, by decide +kernel⟩, List.mem_of_getElem? (i := 1148) (by decide +kernel), List.mem_of_getElem? (i := 1427) (by decide +kernel), List.mem_of_getElem? (i := 1428) (by decide +kernel)⟩
theorem lw_p65 : lw_okq (⟨"OneWindowModel", "sum", "()I"⟩, 48) := ⟨⟨by decide +kernel, by decide +kernel⟩, List.mem_of_getElem? (i := 1148) (by decide +kernel), List.mem_of_getElem? (i := 1431) (by decide +kernel), List.mem_of_getElem? (i := 1432) (by decide +kernel)⟩
theorem lw_p66 : lw_okq (⟨"OneWindowModel", "term", "()I"⟩, 48) := ⟨⟨by decide +kernel, by decide +kernel⟩, List.mem_of_getElem? (i := 1148) (by decide +kernel), List.mem_of_getElem? (i := 1435) (by decide +kernel), List.mem_of_getElem? (i := 1436) (by decide +kernel)⟩
theorem lw_p67 : lw_okq (⟨"OneWindowModel", "atom", "()I"⟩, 48) := ⟨⟨by decide +kernel, by decide +kernel⟩, List.mem_of_getElem? (i := 1148) (by decide +kernel), List.mem_of_getElem? (i := 1439) (by decide +kernel), List.mem_of_getElem? (i := 1440) (by decide +kernel)⟩
theorem lw_p68 : lw_okq (⟨"OneWindowModel", "goesIn", "()Z"⟩, 48) := ⟨⟨by decide +kernel, by decide +kernel⟩, List.mem_of_getElem? (i := 1148) (by decide +kernel), List.mem_of_getElem? (i := 1443) (by decide +kernel), List.mem_of_getElem? (i := 1444) (by decide +kernel)⟩
theorem lw_p69 : lw_okq (⟨"OneWindowModel", "unit", "()Z"⟩, 48) := ⟨⟨by decide +kernel, by decide +kernel⟩, List.mem_of_getElem? (i := 1148) (by decide +kernel), List.mem_of_getElem? (i := 1457) (by decide +kernel), List.mem_of_getElem? (i := 1458) (by decide +kernel)⟩
theorem lw_p70 : lw_okq (⟨"OneWindowModel", "readPlan", "()V"⟩, 48) := ⟨⟨by decide +kernel, by decide +kernel⟩, List.mem_of_getElem? (i := 1148) (by decide +kernel), List.mem_of_getElem? (i := 1461) (by decide +kernel), List.mem_of_getElem? (i := 1462) (by decide +kernel)⟩
theorem lw_p71 : lw_okq (⟨"OneWindowModel", "readStep", "(I)V"⟩, 48) := ⟨⟨by decide +kernel, by decide +kernel⟩, List.mem_of_getElem? (i := 1148) (by decide +kernel), List.mem_of_getElem? (i := 1465) (by decide +kernel), List.mem_of_getElem? (i := 1466) (by decide +kernel)⟩
theorem lw_p72 : lw_okq (⟨"OneWindowModel", "digit", "()I"⟩, 48) := ⟨⟨by decide +kernel, by decide +kernel⟩, List.mem_of_getElem? (i := 1148) (by decide +kernel), List.mem_of_getElem? (i := 1470) (by decide +kernel), List.mem_of_getElem? (i := 1471) (by decide +kernel)⟩
theorem lw_p73 : lw_okq (⟨"OneWindowModel", "told", "(II)I"⟩, 48) := ⟨⟨by decide +kernel, by decide +kernel⟩, List.mem_of_getElem? (i := 1148) (by decide +kernel), List.mem_of_getElem? (i := 1479) (by decide +kernel), List.mem_of_getElem? (i := 1480) (by decide +kernel)⟩
theorem lw_p74 : lw_okq (⟨"OneWindowModel", "isPrisoner", "(I)Z"⟩, 48) := ⟨⟨by decide +kernel, by decide +kernel⟩, List.mem_of_getElem? (i := 1148) (by decide +kernel), List.mem_of_getElem? (i := 1492) (by decide +kernel), List.mem_of_getElem? (i := 1493) (by decide +kernel)⟩
theorem lw_p75 : lw_okq (⟨"OneWindowModel", "inCell", "([II)I"⟩, 48) := ⟨⟨by decide +kernel, by decide +kernel⟩, List.mem_of_getElem? (i := 1148) (by decide +kernel), List.mem_of_getElem? (i := 1501) (by decide +kernel), List.mem_of_getElem? (i := 1502) (by decide +kernel)⟩
theorem lw_p76 : lw_okq (⟨"OneWindowModel", "isEvent", "(I)Z"⟩, 48) := ⟨⟨by decide +kernel, by decide +kernel⟩, List.mem_of_getElem? (i := 1148) (by decide +kernel), List.mem_of_getElem? (i := 1509) (by decide +kernel), List.mem_of_getElem? (i := 1510) (by decide +kernel)⟩
theorem lw_p77 : lw_okq (⟨"OneWindowModel", "canSee", "([II)Z"⟩, 48) := ⟨⟨by decide +kernel, by decide +kernel⟩, List.mem_of_getElem? (i := 1148) (by decide +kernel), List.mem_of_getElem? (i := 1526) (by decide +kernel), List.mem_of_getElem? (i := 1527) (by decide +kernel)⟩
theorem lw_p78 : lw_okq (⟨"OneWindowModel", "remember", "()V"⟩, 48) := ⟨⟨by decide +kernel, by decide +kernel⟩, List.mem_of_getElem? (i := 1148) (by decide +kernel), List.mem_of_getElem? (i := 1530) (by decide +kernel), List.mem_of_getElem? (i := 1531) (by decide +kernel)⟩
theorem lw_p79 : lw_okq (⟨"OneWindowModel", "canTell", "([I)Z"⟩, 48) := ⟨⟨by decide +kernel, by decide +kernel⟩, List.mem_of_getElem? (i := 1148) (by decide +kernel), List.mem_of_getElem? (i := 1538) (by decide +kernel), List.mem_of_getElem? (i := 1539) (by decide +kernel)⟩
def lw_privs_5 : List (MethodName × Nat) := [(⟨"OneWindowModel", "compares", "(ZI)Z"⟩, 48), (⟨"OneWindowModel", "sum", "()I"⟩, 48), (⟨"OneWindowModel", "term", "()I"⟩, 48), (⟨"OneWindowModel", "atom", "()I"⟩, 48), (⟨"OneWindowModel", "goesIn", "()Z"⟩, 48), (⟨"OneWindowModel", "unit", "()Z"⟩, 48), (⟨"OneWindowModel", "readPlan", "()V"⟩, 48), (⟨"OneWindowModel", "readStep", "(I)V"⟩, 48), (⟨"OneWindowModel", "digit", "()I"⟩, 48), (⟨"OneWindowModel", "told", "(II)I"⟩, 48), (⟨"OneWindowModel", "isPrisoner", "(I)Z"⟩, 48), (⟨"OneWindowModel", "inCell", "([II)I"⟩, 48), (⟨"OneWindowModel", "isEvent", "(I)Z"⟩, 48), (⟨"OneWindowModel", "canSee", "([II)Z"⟩, 48), (⟨"OneWindowModel", "remember", "()V"⟩, 48), (⟨"OneWindowModel", "canTell", "([I)Z"⟩, 48)]
theorem lw_r5 : ∀ q ∈ lw_privs_5, lw_okq q := List.forall_mem_cons.mpr ⟨lw_p64, List.forall_mem_cons.mpr ⟨lw_p65, List.forall_mem_cons.mpr ⟨lw_p66, List.forall_mem_cons.mpr ⟨lw_p67, List.forall_mem_cons.mpr ⟨lw_p68, List.forall_mem_cons.mpr ⟨lw_p69, List.forall_mem_cons.mpr ⟨lw_p70, List.forall_mem_cons.mpr ⟨lw_p71, List.forall_mem_cons.mpr ⟨lw_p72, List.forall_mem_cons.mpr ⟨lw_p73, List.forall_mem_cons.mpr ⟨lw_p74, List.forall_mem_cons.mpr ⟨lw_p75, List.forall_mem_cons.mpr ⟨lw_p76, List.forall_mem_cons.mpr ⟨lw_p77, List.forall_mem_cons.mpr ⟨lw_p78, List.forall_mem_cons.mpr ⟨lw_p79, fun _ h => absurd h List.not_mem_nil⟩⟩⟩⟩⟩⟩⟩⟩⟩⟩⟩⟩⟩⟩⟩⟩
theorem lw_p80 : lw_okq (⟨"OneWindowModel", "isWorn", "([I)Z"⟩, 48) := ⟨⟨by decide +kernel, by decide +kernel⟩, List.mem_of_getElem? (i := 1148) (by decide +kernel), List.mem_of_getElem? (i := 1542) (by decide +kernel), List.mem_of_getElem? (i := 1543) (by decide +kernel)⟩
theorem lw_p81 : lw_okq (⟨"OneWindowModel", "tells", "([I)I"⟩, 48) := ⟨⟨by decide +kernel, by decide +kernel⟩, List.mem_of_getElem? (i := 1148) (by decide +kernel), List.mem_of_getElem? (i := 1546) (by decide +kernel), List.mem_of_getElem? (i := 1547) (by decide +kernel)⟩
theorem lw_p82 : lw_okq (⟨"OneWindowModel", "teller", "([I)I"⟩, 48) := ⟨⟨by decide +kernel, by decide +kernel⟩, List.mem_of_getElem? (i := 1148) (by decide +kernel), List.mem_of_getElem? (i := 1550) (by decide +kernel), List.mem_of_getElem? (i := 1551) (by decide +kernel)⟩
theorem lw_p83 : lw_okq (⟨"OneWindowModel", "isToldBy", "([II)Z"⟩, 48) := ⟨⟨by decide +kernel, by decide +kernel⟩, List.mem_of_getElem? (i := 1148) (by decide +kernel), List.mem_of_getElem? (i := 1554) (by decide +kernel), List.mem_of_getElem? (i := 1555) (by decide +kernel)⟩
theorem lw_p84 : lw_okq (⟨"OneWindowModel", "tellsOne", "([III)I"⟩, 48) := ⟨⟨by decide +kernel, by decide +kernel⟩, List.mem_of_getElem? (i := 1148) (by decide +kernel), List.mem_of_getElem? (i := 1558) (by decide +kernel), List.mem_of_getElem? (i := 1559) (by decide +kernel)⟩
theorem lw_p85 : lw_okq (⟨"OneWindowModel", "knocks", "([III)V"⟩, 48) := ⟨⟨by decide +kernel, by decide +kernel⟩, List.mem_of_getElem? (i := 1148) (by decide +kernel), List.mem_of_getElem? (i := 1562) (by decide +kernel), List.mem_of_getElem? (i := 1563) (by decide +kernel)⟩
theorem lw_p86 : lw_okq (⟨"OneWindowModel", "takes", "([IIII)I"⟩, 48) := ⟨⟨by decide +kernel, by decide +kernel⟩, List.mem_of_getElem? (i := 1148) (by decide +kernel), List.mem_of_getElem? (i := 1566) (by decide +kernel), List.mem_of_getElem? (i := 1567) (by decide +kernel)⟩
theorem lw_p87 : lw_okq (⟨"OneWindowModel", "isHeard", "([II)Z"⟩, 48) := ⟨⟨by decide +kernel, by decide +kernel⟩, List.mem_of_getElem? (i := 1148) (by decide +kernel), List.mem_of_getElem? (i := 1572) (by decide +kernel), List.mem_of_getElem? (i := 1573) (by decide +kernel)⟩
theorem lw_p88 : lw_okq (⟨"OneWindowModel", "canMove", "(II)Z"⟩, 48) := ⟨⟨by decide +kernel, by decide +kernel⟩, List.mem_of_getElem? (i := 1148) (by decide +kernel), List.mem_of_getElem? (i := 1581) (by decide +kernel), List.mem_of_getElem? (i := 1582) (by decide +kernel)⟩
theorem lw_p89 : lw_okq (⟨"OneWindowModel", "canCode", "([I)Z"⟩, 48) := ⟨⟨by decide +kernel, by decide +kernel⟩, List.mem_of_getElem? (i := 1148) (by decide +kernel), List.mem_of_getElem? (i := 1596) (by decide +kernel), List.mem_of_getElem? (i := 1597) (by decide +kernel)⟩
theorem lw_p90 : lw_okq (⟨"OneWindowModel", "richest", "([I)I"⟩, 48) := ⟨⟨by decide +kernel, by decide +kernel⟩, List.mem_of_getElem? (i := 1148) (by decide +kernel), List.mem_of_getElem? (i := 1600) (by decide +kernel), List.mem_of_getElem? (i := 1601) (by decide +kernel)⟩
theorem lw_p91 : lw_okq (⟨"OneWindowModel", "renews", "([I)I"⟩, 48) := ⟨⟨by decide +kernel, by decide +kernel⟩, List.mem_of_getElem? (i := 1148) (by decide +kernel), List.mem_of_getElem? (i := 1604) (by decide +kernel), List.mem_of_getElem? (i := 1605) (by decide +kernel)⟩
theorem lw_p92 : lw_okq (⟨"OneWindowModel", "mayPass", "(I)Z"⟩, 48) := ⟨⟨by decide +kernel, by decide +kernel⟩, List.mem_of_getElem? (i := 1148) (by decide +kernel), List.mem_of_getElem? (i := 1612) (by decide +kernel), List.mem_of_getElem? (i := 1613) (by decide +kernel)⟩
theorem lw_p93 : lw_okq (⟨"OneWindowModel", "darkens", "([I)V"⟩, 48) := ⟨⟨by decide +kernel, by decide +kernel⟩, List.mem_of_getElem? (i := 1148) (by decide +kernel), List.mem_of_getElem? (i := 1617) (by decide +kernel), List.mem_of_getElem? (i := 1618) (by decide +kernel)⟩
theorem lw_p94 : lw_okq (⟨"OneWindowModel", "draw", "(I)I"⟩, 48) := ⟨⟨by decide +kernel, by decide +kernel⟩, List.mem_of_getElem? (i := 1148) (by decide +kernel), List.mem_of_getElem? (i := 1625) (by decide +kernel), List.mem_of_getElem? (i := 1626) (by decide +kernel)⟩
theorem lw_p95 : lw_okq (⟨"OneWindowModel", "bestOther", "(I)I"⟩, 48) := ⟨⟨by decide +kernel, by decide +kernel⟩, List.mem_of_getElem? (i := 1148) (by decide +kernel), List.mem_of_getElem? (i := 1631) (by decide +kernel), List.mem_of_getElem? (i := 1632) (by decide +kernel)⟩
def lw_privs_6 : List (MethodName × Nat) := [(⟨"OneWindowModel", "isWorn", "([I)Z"⟩, 48), (⟨"OneWindowModel", "tells", "([I)I"⟩, 48), (⟨"OneWindowModel", "teller", "([I)I"⟩, 48), (⟨"OneWindowModel", "isToldBy", "([II)Z"⟩, 48), (⟨"OneWindowModel", "tellsOne", "([III)I"⟩, 48), (⟨"OneWindowModel", "knocks", "([III)V"⟩, 48), (⟨"OneWindowModel", "takes", "([IIII)I"⟩, 48), (⟨"OneWindowModel", "isHeard", "([II)Z"⟩, 48), (⟨"OneWindowModel", "canMove", "(II)Z"⟩, 48), (⟨"OneWindowModel", "canCode", "([I)Z"⟩, 48), (⟨"OneWindowModel", "richest", "([I)I"⟩, 48), (⟨"OneWindowModel", "renews", "([I)I"⟩, 48), (⟨"OneWindowModel", "mayPass", "(I)Z"⟩, 48), (⟨"OneWindowModel", "darkens", "([I)V"⟩, 48), (⟨"OneWindowModel", "draw", "(I)I"⟩, 48), (⟨"OneWindowModel", "bestOther", "(I)I"⟩, 48)]
theorem lw_r6 : ∀ q ∈ lw_privs_6, lw_okq q := List.forall_mem_cons.mpr ⟨lw_p80, List.forall_mem_cons.mpr ⟨lw_p81, List.forall_mem_cons.mpr ⟨lw_p82, List.forall_mem_cons.mpr ⟨lw_p83, List.forall_mem_cons.mpr ⟨lw_p84, List.forall_mem_cons.mpr ⟨lw_p85, List.forall_mem_cons.mpr ⟨lw_p86, List.forall_mem_cons.mpr ⟨lw_p87, List.forall_mem_cons.mpr ⟨lw_p88, List.forall_mem_cons.mpr ⟨lw_p89, List.forall_mem_cons.mpr ⟨lw_p90, List.forall_mem_cons.mpr ⟨lw_p91, List.forall_mem_cons.mpr ⟨lw_p92, List.forall_mem_cons.mpr ⟨lw_p93, List.forall_mem_cons.mpr ⟨lw_p94, List.forall_mem_cons.mpr ⟨lw_p95, fun _ h => absurd h List.not_mem_nil⟩⟩⟩⟩⟩⟩⟩⟩⟩⟩⟩⟩⟩⟩⟩⟩
theorem lw_p96 : lw_okq (⟨"OneWindowModel", "isPlan", "(I)Z"⟩, 48) := ⟨⟨by decide +kernel, by decide +kernel⟩, List.mem_of_getElem? (i := 1148) (by decide +kernel), List.mem_of_getElem? (i := 1647) (by decide +kernel), List.mem_of_getElem? (i := 1648) (by decide +kernel)⟩
theorem lw_p97 : lw_okq (⟨"OneWindowModel", "canStep", "([II)Z"⟩, 48) := ⟨⟨by decide +kernel, by decide +kernel⟩, List.mem_of_getElem? (i := 1148) (by decide +kernel), List.mem_of_getElem? (i := 1659) (by decide +kernel), List.mem_of_getElem? (i := 1660) (by decide +kernel)⟩
theorem lw_p98 : lw_okq (⟨"OneWindowModel", "steps", "([II)V"⟩, 48) := ⟨⟨by decide +kernel, by decide +kernel⟩, List.mem_of_getElem? (i := 1148) (by decide +kernel), List.mem_of_getElem? (i := 1663) (by decide +kernel), List.mem_of_getElem? (i := 1664) (by decide +kernel)⟩
theorem lw_p99 : lw_okq (⟨"OneWindowModel", "seatBy", "(I)I"⟩, 48) := ⟨⟨by decide +kernel, by decide +kernel⟩, List.mem_of_getElem? (i := 1148) (by decide +kernel), List.mem_of_getElem? (i := 1683) (by decide +kernel), List.mem_of_getElem? (i := 1684) (by decide +kernel)⟩
theorem lw_p100 : lw_okq (⟨"OneWindowModel", "seatOf", "([II)I"⟩, 48) := ⟨⟨by decide +kernel, by decide +kernel⟩, List.mem_of_getElem? (i := 1148) (by decide +kernel), List.mem_of_getElem? (i := 1687) (by decide +kernel), List.mem_of_getElem? (i := 1688) (by decide +kernel)⟩
theorem lw_p101 : lw_okq (⟨"OneWindowModel", "goCodes", "(IIII)V"⟩, 48) := ⟨⟨by decide +kernel, by decide +kernel⟩, List.mem_of_getElem? (i := 1148) (by decide +kernel), List.mem_of_getElem? (i := 1699) (by decide +kernel), List.mem_of_getElem? (i := 1700) (by decide +kernel)⟩
theorem lw_p102 : lw_okq (⟨"OneWindowModel", "leastLiars", "()I"⟩, 48) := ⟨⟨by decide +kernel, by decide +kernel⟩, List.mem_of_getElem? (i := 1148) (by decide +kernel), List.mem_of_getElem? (i := 1711) (by decide +kernel), List.mem_of_getElem? (i := 1712) (by decide +kernel)⟩
theorem lw_p103 : lw_okq (⟨"OneWindowModel", "truthMany", "()I"⟩, 48) := ⟨⟨by decide +kernel, by decide +kernel⟩, List.mem_of_getElem? (i := 1148) (by decide +kernel), List.mem_of_getElem? (i := 1715) (by decide +kernel), List.mem_of_getElem? (i := 1716) (by decide +kernel)⟩
theorem lw_p104 : lw_okq (⟨"OneWindowModel", "liarsBy", "(I)I"⟩, 48) := ⟨⟨by decide +kernel, by decide +kernel⟩, List.mem_of_getElem? (i := 1148) (by decide +kernel), List.mem_of_getElem? (i := 1719) (by decide +kernel), List.mem_of_getElem? (i := 1720) (by decide +kernel)⟩
theorem lw_p105 : lw_okq (⟨"OneWindowModel", "mayAsk", "(I)Z"⟩, 48) := ⟨⟨by decide +kernel, by decide +kernel⟩, List.mem_of_getElem? (i := 1148) (by decide +kernel), List.mem_of_getElem? (i := 1727) (by decide +kernel), List.mem_of_getElem? (i := 1728) (by decide +kernel)⟩
theorem lw_p106 : lw_okq (⟨"OneWindowModel", "weightOf", "(I)J"⟩, 48) := ⟨⟨by decide +kernel, by decide +kernel⟩, List.mem_of_getElem? (i := 1148) (by decide +kernel), List.mem_of_getElem? (i := 1750) (by decide +kernel), List.mem_of_getElem? (i := 1751) (by decide +kernel)⟩
theorem lw_p107 : lw_okq (⟨"OneWindowModel", "hears", "(II)I"⟩, 48) := ⟨⟨by decide +kernel, by decide +kernel⟩, List.mem_of_getElem? (i := 1148) (by decide +kernel), List.mem_of_getElem? (i := 1763) (by decide +kernel), List.mem_of_getElem? (i := 1764) (by decide +kernel)⟩
theorem lw_p108 : lw_okq (⟨"OneWindowModel", "canBuy", "(II)Z"⟩, 48) := ⟨⟨by decide +kernel, by decide +kernel⟩, List.mem_of_getElem? (i := 1148) (by decide +kernel), List.mem_of_getElem? (i := 1803) (by decide +kernel), List.mem_of_getElem? (i := 1804) (by decide +kernel)⟩
theorem lw_p109 : lw_okq (⟨"OneWindowModel", "buysOf", "(IIII)I"⟩, 48) := ⟨⟨by decide +kernel, by decide +kernel⟩, List.mem_of_getElem? (i := 1148) (by decide +kernel), List.mem_of_getElem? (i := 1807) (by decide +kernel), List.mem_of_getElem? (i := 1808) (by decide +kernel)⟩
def lw_privs_7 : List (MethodName × Nat) := [(⟨"OneWindowModel", "isPlan", "(I)Z"⟩, 48), (⟨"OneWindowModel", "canStep", "([II)Z"⟩, 48), (⟨"OneWindowModel", "steps", "([II)V"⟩, 48), (⟨"OneWindowModel", "seatBy", "(I)I"⟩, 48), (⟨"OneWindowModel", "seatOf", "([II)I"⟩, 48), (⟨"OneWindowModel", "goCodes", "(IIII)V"⟩, 48), (⟨"OneWindowModel", "leastLiars", "()I"⟩, 48), (⟨"OneWindowModel", "truthMany", "()I"⟩, 48), (⟨"OneWindowModel", "liarsBy", "(I)I"⟩, 48), (⟨"OneWindowModel", "mayAsk", "(I)Z"⟩, 48), (⟨"OneWindowModel", "weightOf", "(I)J"⟩, 48), (⟨"OneWindowModel", "hears", "(II)I"⟩, 48), (⟨"OneWindowModel", "canBuy", "(II)Z"⟩, 48), (⟨"OneWindowModel", "buysOf", "(IIII)I"⟩, 48)]
theorem lw_r7 : ∀ q ∈ lw_privs_7, lw_okq q := List.forall_mem_cons.mpr ⟨lw_p96, List.forall_mem_cons.mpr ⟨lw_p97, List.forall_mem_cons.mpr ⟨lw_p98, List.forall_mem_cons.mpr ⟨lw_p99, List.forall_mem_cons.mpr ⟨lw_p100, List.forall_mem_cons.mpr ⟨lw_p101, List.forall_mem_cons.mpr ⟨lw_p102, List.forall_mem_cons.mpr ⟨lw_p103, List.forall_mem_cons.mpr ⟨lw_p104, List.forall_mem_cons.mpr ⟨lw_p105, List.forall_mem_cons.mpr ⟨lw_p106, List.forall_mem_cons.mpr ⟨lw_p107, List.forall_mem_cons.mpr ⟨lw_p108, List.forall_mem_cons.mpr ⟨lw_p109, fun _ h => absurd h List.not_mem_nil⟩⟩⟩⟩⟩⟩⟩⟩⟩⟩⟩⟩⟩⟩
def lw_privs : List (MethodName × Nat) := lw_privs_1 ++ (lw_privs_2 ++ (lw_privs_3 ++ (lw_privs_4 ++ (lw_privs_5 ++ (lw_privs_6 ++ (lw_privs_7))))))
def lw_tbl : List Cond := k2_sels lw_privs ++ tables_1
theorem lw_privs_ok : ∀ q ∈ lw_privs, lw_okq q := by
  show ∀ q ∈ lw_privs_1 ++ (lw_privs_2 ++ (lw_privs_3 ++ (lw_privs_4 ++ (lw_privs_5 ++ (lw_privs_6 ++ (lw_privs_7)))))), lw_okq q
  exact List.forall_mem_append.mpr ⟨lw_r1, List.forall_mem_append.mpr ⟨lw_r2, List.forall_mem_append.mpr ⟨lw_r3, List.forall_mem_append.mpr ⟨lw_r4, List.forall_mem_append.mpr ⟨lw_r5, List.forall_mem_append.mpr ⟨lw_r6, lw_r7⟩⟩⟩⟩⟩⟩

def RX0 : String := "OneWindow$Acts"
def TX0 : u_T := fun k => match k with
  | 0 => ("OneWindow$Acts", "scenes", "[I", true)
  | 1 => ("OneWindow$Acts", "next", "I", false)
  | _ => ("OneWindow$Acts", "kept", "I", false)
def tyX0 : Nat → FieldType := fun k => match k with
  | 0 => .array .int
  | 1 => .int
  | _ => .int
abbrev wsX00 : List Cond := u_ws RX0 TX0 3
theorem nmX0 : ∀ a, a < 3 → ∀ b, b < 3 → a ≠ b → (TX0 a).2.1 ≠ (TX0 b).2.1 := by decide +kernel
theorem tyX0_ok : ∀ k, k < 3 → parseFieldDescriptor (TX0 k).2.2.1 = some (tyX0 k) := by decide +kernel
abbrev cX0_init : ByteArray := prog_2_method_1_code
def yX0_init : MethodName := ⟨RX0, "<init>", "()V"⟩
abbrev cX0_forget : ByteArray := prog_2_method_2_code
def yX0_forget : MethodName := ⟨RX0, "forget", "()V"⟩
abbrev cX0_keep : ByteArray := prog_2_method_3_code
def yX0_keep : MethodName := ⟨RX0, "keep", "(LOneWindow$Scene;)V"⟩
abbrev cX0_bringBack : ByteArray := prog_2_method_4_code
def yX0_bringBack : MethodName := ⟨RX0, "bringBack", "(LOneWindow$Scene;)V"⟩
def RX1 : String := "OneWindow$Codebook"
def TX1 : u_T := fun k => match k with
  | 0 => ("OneWindow$Codebook", "leastSum", "I", false)
  | 1 => ("OneWindow$Codebook", "digits", "I", false)
  | _ => ("OneWindow$Codebook", "known", "Z", false)
def tyX1 : Nat → FieldType := fun k => match k with
  | 0 => .int
  | 1 => .int
  | _ => .boolean
abbrev wsX10 : List Cond := u_ws RX1 TX1 3
theorem nmX1 : ∀ a, a < 3 → ∀ b, b < 3 → a ≠ b → (TX1 a).2.1 ≠ (TX1 b).2.1 := by decide +kernel
theorem tyX1_ok : ∀ k, k < 3 → parseFieldDescriptor (TX1 k).2.2.1 = some (tyX1 k) := by decide +kernel
abbrev cX1_init : ByteArray := prog_3_method_1_code
def yX1_init : MethodName := ⟨RX1, "<init>", "()V"⟩
abbrev cX1_forget : ByteArray := prog_3_method_2_code
def yX1_forget : MethodName := ⟨RX1, "forget", "()V"⟩
abbrev cX1_search : ByteArray := prog_3_method_3_code
def yX1_search : MethodName := ⟨RX1, "search", "(LOneWindow$Fort;)V"⟩
abbrev cX1_tryLengths : ByteArray := prog_3_method_4_code
def yX1_tryLengths : MethodName := ⟨RX1, "tryLengths", "(LOneWindow$Fort;IIII)V"⟩
def RX2 : String := "OneWindow$Diary"
def TX2 : u_T := fun k => match k with
  | _ => ("OneWindow$Diary", "entries", "[I", true)
def tyX2 : Nat → FieldType := fun k => match k with
  | _ => .array .int
abbrev wsX20 : List Cond := u_ws RX2 TX2 1
theorem nmX2 : ∀ a, a < 1 → ∀ b, b < 1 → a ≠ b → (TX2 a).2.1 ≠ (TX2 b).2.1 := by decide +kernel
theorem tyX2_ok : ∀ k, k < 1 → parseFieldDescriptor (TX2 k).2.2.1 = some (tyX2 k) := by decide +kernel
abbrev cX2_init : ByteArray := prog_4_method_1_code
def yX2_init : MethodName := ⟨RX2, "<init>", "()V"⟩
abbrev cX2_put : ByteArray := prog_4_method_2_code
def yX2_put : MethodName := ⟨RX2, "put", "(LOneWindow$Scene;)V"⟩
abbrev cX2_entry : ByteArray := prog_4_method_3_code
def yX2_entry : MethodName := ⟨RX2, "entry", "(II)I"⟩
abbrev cX2_copy : ByteArray := prog_4_method_4_code
def yX2_copy : MethodName := ⟨RX2, "copy", "(LOneWindow$Diary;)V"⟩
def RX3 : String := "OneWindow$Fort"
def TX3 : u_T := fun k => match k with
  | 0 => ("OneWindow$Fort", "rules", "[I", true)
  | 1 => ("OneWindow$Fort", "cellItems", "[I", true)
  | 2 => ("OneWindow$Fort", "eventItems", "[I", true)
  | 3 => ("OneWindow$Fort", "cells", "I", false)
  | 4 => ("OneWindow$Fort", "events", "I", false)
  | _ => ("OneWindow$Fort", "ruled", "Z", false)
def tyX3 : Nat → FieldType := fun k => match k with
  | 0 => .array .int
  | 1 => .array .int
  | 2 => .array .int
  | 3 => .int
  | 4 => .int
  | _ => .boolean
abbrev wsX30 : List Cond := u_ws RX3 TX3 6
theorem nmX3 : ∀ a, a < 6 → ∀ b, b < 6 → a ≠ b → (TX3 a).2.1 ≠ (TX3 b).2.1 := by decide +kernel
theorem tyX3_ok : ∀ k, k < 6 → parseFieldDescriptor (TX3 k).2.2.1 = some (tyX3 k) := by decide +kernel
abbrev cX3_init : ByteArray := prog_5_method_1_code
def yX3_init : MethodName := ⟨RX3, "<init>", "()V"⟩
abbrev cX3_read : ByteArray := prog_5_method_2_code
def yX3_read : MethodName := ⟨RX3, "read", "(LOneWindow$Tape;)V"⟩
abbrev cX3_readClause : ByteArray := prog_5_method_3_code
def yX3_readClause : MethodName := ⟨RX3, "readClause", "(LOneWindow$Tape;)V"⟩
abbrev cX3_readItems : ByteArray := prog_5_method_4_code
def yX3_readItems : MethodName := ⟨RX3, "readItems", "(LOneWindow$Tape;Ljava/lang/String;[I[I[II)V"⟩
abbrev cX3_window : ByteArray := prog_5_method_5_code
def yX3_window : MethodName := ⟨RX3, "window", "()I"⟩
abbrev cX3_loud : ByteArray := prog_5_method_6_code
def yX3_loud : MethodName := ⟨RX3, "loud", "()I"⟩
abbrev cX3_worn : ByteArray := prog_5_method_7_code
def yX3_worn : MethodName := ⟨RX3, "worn", "()I"⟩
abbrev cX3_cost : ByteArray := prog_5_method_8_code
def yX3_cost : MethodName := ⟨RX3, "cost", "()I"⟩
abbrev cX3_thick : ByteArray := prog_5_method_9_code
def yX3_thick : MethodName := ⟨RX3, "thick", "(I)I"⟩
abbrev cX3_merit : ByteArray := prog_5_method_10_code
def yX3_merit : MethodName := ⟨RX3, "merit", "(I)I"⟩
abbrev cX3_honesty : ByteArray := prog_5_method_11_code
def yX3_honesty : MethodName := ⟨RX3, "honesty", "(I)I"⟩
abbrev cX3_leavesOut : ByteArray := prog_5_method_12_code
def yX3_leavesOut : MethodName := ⟨RX3, "leavesOut", "(I)I"⟩
abbrev cX3_breadAtFirst : ByteArray := prog_5_method_13_code
def yX3_breadAtFirst : MethodName := ⟨RX3, "breadAtFirst", "(I)I"⟩
abbrev cX3_knocks : ByteArray := prog_5_method_14_code
def yX3_knocks : MethodName := ⟨RX3, "knocks", "(I)I"⟩
abbrev cX3_chance : ByteArray := prog_5_method_15_code
def yX3_chance : MethodName := ⟨RX3, "chance", "(I)I"⟩
def RX4 : String := "OneWindow$Knocking"
def TX4 : u_T := fun k => match k with
  | 0 => ("OneWindow$Knocking", "strength", "[I", true)
  | 1 => ("OneWindow$Knocking", "heardBy", "[I", true)
  | _ => ("OneWindow$Knocking", "letters", "[I", true)
def tyX4 : Nat → FieldType := fun k => match k with
  | 0 => .array .int
  | 1 => .array .int
  | _ => .array .int
abbrev wsX40 : List Cond := u_ws RX4 TX4 3
theorem nmX4 : ∀ a, a < 3 → ∀ b, b < 3 → a ≠ b → (TX4 a).2.1 ≠ (TX4 b).2.1 := by decide +kernel
theorem tyX4_ok : ∀ k, k < 3 → parseFieldDescriptor (TX4 k).2.2.1 = some (tyX4 k) := by decide +kernel
abbrev cX4_init : ByteArray := prog_6_method_1_code
def yX4_init : MethodName := ⟨RX4, "<init>", "()V"⟩
abbrev cX4_spread : ByteArray := prog_6_method_2_code
def yX4_spread : MethodName := ⟨RX4, "spread", "(LOneWindow$Fort;LOneWindow$Scene;LOneWindow$Law;II)V"⟩
abbrev cX4_behind : ByteArray := prog_6_method_3_code
def yX4_behind : MethodName := ⟨RX4, "behind", "(IIILOneWindow$Law;)I"⟩
abbrev cX4_hearers : ByteArray := prog_6_method_4_code
def yX4_hearers : MethodName := ⟨RX4, "hearers", "(LOneWindow$Fort;LOneWindow$Scene;I)I"⟩
abbrev cX4_tellAll : ByteArray := prog_6_method_5_code
def yX4_tellAll : MethodName := ⟨RX4, "tellAll", "(LOneWindow$Fort;LOneWindow$Scene;LOneWindow$Law;IZ)I"⟩
abbrev cX4_hear : ByteArray := prog_6_method_6_code
def yX4_hear : MethodName := ⟨RX4, "hear", "(LOneWindow$Scene;IIII)V"⟩
def RX5 : String := "OneWindow$Law"
def TX5 : u_T := fun k => match k with
  | 0 => ("OneWindow$Law", "signs", "[I", true)
  | 1 => ("OneWindow$Law", "stack", "[I", true)
  | _ => ("OneWindow$Law", "size", "I", false)
def tyX5 : Nat → FieldType := fun k => match k with
  | 0 => .array .int
  | 1 => .array .int
  | _ => .int
abbrev wsX50 : List Cond := u_ws RX5 TX5 3
theorem nmX5 : ∀ a, a < 3 → ∀ b, b < 3 → a ≠ b → (TX5 a).2.1 ≠ (TX5 b).2.1 := by decide +kernel
theorem tyX5_ok : ∀ k, k < 3 → parseFieldDescriptor (TX5 k).2.2.1 = some (tyX5 k) := by decide +kernel
abbrev cX5_init : ByteArray := prog_7_method_1_code
def yX5_init : MethodName := ⟨RX5, "<init>", "()V"⟩
abbrev cX5_read : ByteArray := prog_7_method_2_code
def yX5_read : MethodName := ⟨RX5, "read", "(LOneWindow$Tape;)V"⟩
abbrev cX5_readClause : ByteArray := prog_7_method_3_code
def yX5_readClause : MethodName := ⟨RX5, "readClause", "(LOneWindow$Tape;)V"⟩
abbrev cX5_readCondition : ByteArray := prog_7_method_4_code
def yX5_readCondition : MethodName := ⟨RX5, "readCondition", "(LOneWindow$Tape;IZ)V"⟩
abbrev cX5_readTruth : ByteArray := prog_7_method_5_code
def yX5_readTruth : MethodName := ⟨RX5, "readTruth", "(LOneWindow$Tape;IZ)V"⟩
abbrev cX5_readUnit : ByteArray := prog_7_method_6_code
def yX5_readUnit : MethodName := ⟨RX5, "readUnit", "(LOneWindow$Tape;IZ)V"⟩
abbrev cX5_readSum : ByteArray := prog_7_method_7_code
def yX5_readSum : MethodName := ⟨RX5, "readSum", "(LOneWindow$Tape;I)V"⟩
abbrev cX5_readTerm : ByteArray := prog_7_method_8_code
def yX5_readTerm : MethodName := ⟨RX5, "readTerm", "(LOneWindow$Tape;I)V"⟩
abbrev cX5_readAtom : ByteArray := prog_7_method_9_code
def yX5_readAtom : MethodName := ⟨RX5, "readAtom", "(LOneWindow$Tape;I)V"⟩
abbrev cX5_enters : ByteArray := prog_7_method_10_code
def yX5_enters : MethodName := ⟨RX5, "enters", "(LOneWindow$Tape;I)Z"⟩
abbrev cX5_isComparison : ByteArray := prog_7_method_11_code
def yX5_isComparison : MethodName := ⟨RX5, "isComparison", "(I)Z"⟩
abbrev cX5_put : ByteArray := prog_7_method_12_code
def yX5_put : MethodName := ⟨RX5, "put", "(I)V"⟩
abbrev cX5_worth : ByteArray := prog_7_method_13_code
def yX5_worth : MethodName := ⟨RX5, "worth", "([I)I"⟩
abbrev cX5_stacked : ByteArray := prog_7_method_14_code
def yX5_stacked : MethodName := ⟨RX5, "stacked", "(II)I"⟩
abbrev cX5_clauseEnd : ByteArray := prog_7_method_15_code
def yX5_clauseEnd : MethodName := ⟨RX5, "clauseEnd", "(I)I"⟩
abbrev cX5_joined : ByteArray := prog_7_method_16_code
def yX5_joined : MethodName := ⟨RX5, "joined", "(IJJ)I"⟩
def RX6 : String := "OneWindow$Plan"
def TX6 : u_T := fun k => match k with
  | 0 => ("OneWindow$Plan", "parts", "[I", true)
  | _ => ("OneWindow$Plan", "steps", "I", false)
def tyX6 : Nat → FieldType := fun k => match k with
  | 0 => .array .int
  | _ => .int
abbrev wsX60 : List Cond := u_ws RX6 TX6 2
theorem nmX6 : ∀ a, a < 2 → ∀ b, b < 2 → a ≠ b → (TX6 a).2.1 ≠ (TX6 b).2.1 := by decide +kernel
theorem tyX6_ok : ∀ k, k < 2 → parseFieldDescriptor (TX6 k).2.2.1 = some (tyX6 k) := by decide +kernel
abbrev cX6_init : ByteArray := prog_8_method_1_code
def yX6_init : MethodName := ⟨RX6, "<init>", "()V"⟩
abbrev cX6_read : ByteArray := prog_8_method_2_code
def yX6_read : MethodName := ⟨RX6, "read", "(LOneWindow$Tape;)V"⟩
abbrev cX6_readStep : ByteArray := prog_8_method_3_code
def yX6_readStep : MethodName := ⟨RX6, "readStep", "(LOneWindow$Tape;I)V"⟩
abbrev cX6_part : ByteArray := prog_8_method_4_code
def yX6_part : MethodName := ⟨RX6, "part", "(II)I"⟩
def RX7 : String := "OneWindow$Scene"
def TX7 : u_T := fun k => match k with
  | _ => ("OneWindow$Scene", "row", "[I", true)
def tyX7 : Nat → FieldType := fun k => match k with
  | _ => .array .int
abbrev wsX70 : List Cond := u_ws RX7 TX7 1
theorem nmX7 : ∀ a, a < 1 → ∀ b, b < 1 → a ≠ b → (TX7 a).2.1 ≠ (TX7 b).2.1 := by decide +kernel
theorem tyX7_ok : ∀ k, k < 1 → parseFieldDescriptor (TX7 k).2.2.1 = some (tyX7 k) := by decide +kernel
abbrev cX7_init : ByteArray := prog_9_method_1_code
def yX7_init : MethodName := ⟨RX7, "<init>", "()V"⟩
abbrev cX7_open : ByteArray := prog_9_method_2_code
def yX7_open : MethodName := ⟨RX7, "open", "(LOneWindow$Fort;)V"⟩
abbrev cX7_copy : ByteArray := prog_9_method_3_code
def yX7_copy : MethodName := ⟨RX7, "copy", "(LOneWindow$Scene;)V"⟩
abbrev cX7_sees : ByteArray := prog_9_method_4_code
def yX7_sees : MethodName := ⟨RX7, "sees", "(I)Z"⟩
abbrev cX7_cellOf : ByteArray := prog_9_method_5_code
def yX7_cellOf : MethodName := ⟨RX7, "cellOf", "(II)I"⟩
abbrev cX7_swapCells : ByteArray := prog_9_method_6_code
def yX7_swapCells : MethodName := ⟨RX7, "swapCells", "(III)V"⟩
abbrev cX7_richest : ByteArray := prog_9_method_7_code
def yX7_richest : MethodName := ⟨RX7, "richest", "(I)I"⟩
abbrev cX7_breadOfAll : ByteArray := prog_9_method_8_code
def yX7_breadOfAll : MethodName := ⟨RX7, "breadOfAll", "(I)I"⟩
abbrev cX7_pay : ByteArray := prog_9_method_9_code
def yX7_pay : MethodName := ⟨RX7, "pay", "(III)V"⟩
abbrev cX7_wasTold : ByteArray := prog_9_method_10_code
def yX7_wasTold : MethodName := ⟨RX7, "wasTold", "(III)V"⟩
abbrev cX7_endDay : ByteArray := prog_9_method_11_code
def yX7_endDay : MethodName := ⟨RX7, "endDay", "()V"⟩
def RX8 : String := "OneWindow$Tape"
def TX8 : u_T := fun k => match k with
  | 0 => ("OneWindow$Tape", "bytes", "[I", true)
  | 1 => ("OneWindow$Tape", "length", "I", false)
  | 2 => ("OneWindow$Tape", "place", "I", false)
  | _ => ("OneWindow$Tape", "wrong", "I", false)
def tyX8 : Nat → FieldType := fun k => match k with
  | 0 => .array .int
  | 1 => .int
  | 2 => .int
  | _ => .int
abbrev wsX80 : List Cond := u_ws RX8 TX8 4
theorem nmX8 : ∀ a, a < 4 → ∀ b, b < 4 → a ≠ b → (TX8 a).2.1 ≠ (TX8 b).2.1 := by decide +kernel
theorem tyX8_ok : ∀ k, k < 4 → parseFieldDescriptor (TX8 k).2.2.1 = some (tyX8 k) := by decide +kernel
abbrev cX8_init : ByteArray := prog_10_method_1_code
def yX8_init : MethodName := ⟨RX8, "<init>", "()V"⟩
abbrev cX8_bytesIn : ByteArray := prog_10_method_2_code
def yX8_bytesIn : MethodName := ⟨RX8, "bytesIn", "(I)I"⟩
abbrev cX8_add : ByteArray := prog_10_method_3_code
def yX8_add : MethodName := ⟨RX8, "add", "(I)V"⟩
abbrev cX8_begin : ByteArray := prog_10_method_4_code
def yX8_begin : MethodName := ⟨RX8, "begin", "()V"⟩
abbrev cX8_here : ByteArray := prog_10_method_5_code
def yX8_here : MethodName := ⟨RX8, "here", "()I"⟩
abbrev cX8_next : ByteArray := prog_10_method_6_code
def yX8_next : MethodName := ⟨RX8, "next", "()I"⟩
abbrev cX8_pass : ByteArray := prog_10_method_7_code
def yX8_pass : MethodName := ⟨RX8, "pass", "()V"⟩
abbrev cX8_takes : ByteArray := prog_10_method_8_code
def yX8_takes : MethodName := ⟨RX8, "takes", "(I)Z"⟩
abbrev cX8_expect : ByteArray := prog_10_method_9_code
def yX8_expect : MethodName := ⟨RX8, "expect", "(I)V"⟩
abbrev cX8_expectEnd : ByteArray := prog_10_method_10_code
def yX8_expectEnd : MethodName := ⟨RX8, "expectEnd", "()V"⟩
abbrev cX8_fail : ByteArray := prog_10_method_11_code
def yX8_fail : MethodName := ⟨RX8, "fail", "()V"⟩
abbrev cX8_failAt : ByteArray := prog_10_method_12_code
def yX8_failAt : MethodName := ⟨RX8, "failAt", "(I)V"⟩
abbrev cX8_letterOf : ByteArray := prog_10_method_13_code
def yX8_letterOf : MethodName := ⟨RX8, "letterOf", "(Ljava/lang/String;)I"⟩
abbrev cX8_digit : ByteArray := prog_10_method_14_code
def yX8_digit : MethodName := ⟨RX8, "digit", "()I"⟩
abbrev cX8_number : ByteArray := prog_10_method_15_code
def yX8_number : MethodName := ⟨RX8, "number", "(III)I"⟩
abbrev cX8_isDigit : ByteArray := prog_10_method_16_code
def yX8_isDigit : MethodName := ⟨RX8, "isDigit", "(I)Z"⟩
def RX9 : String := "OneWindow$Witnesses"
def TX9 : u_T := fun k => match k with
  | 0 => ("OneWindow$Witnesses", "were", "[I", true)
  | 1 => ("OneWindow$Witnesses", "wereNot", "[I", true)
  | _ => ("OneWindow$Witnesses", "sayings", "I", false)
def tyX9 : Nat → FieldType := fun k => match k with
  | 0 => .array .int
  | 1 => .array .int
  | _ => .int
abbrev wsX90 : List Cond := u_ws RX9 TX9 3
theorem nmX9 : ∀ a, a < 3 → ∀ b, b < 3 → a ≠ b → (TX9 a).2.1 ≠ (TX9 b).2.1 := by decide +kernel
theorem tyX9_ok : ∀ k, k < 3 → parseFieldDescriptor (TX9 k).2.2.1 = some (tyX9 k) := by decide +kernel
abbrev cX9_init : ByteArray := prog_11_method_1_code
def yX9_init : MethodName := ⟨RX9, "<init>", "()V"⟩
abbrev cX9_forget : ByteArray := prog_11_method_2_code
def yX9_forget : MethodName := ⟨RX9, "forget", "()V"⟩
abbrev cX9_hear : ByteArray := prog_11_method_3_code
def yX9_hear : MethodName := ⟨RX9, "hear", "(IIZ)V"⟩
abbrev cX9_spoke : ByteArray := prog_11_method_4_code
def yX9_spoke : MethodName := ⟨RX9, "spoke", "(I)Z"⟩
abbrev cX9_lies : ByteArray := prog_11_method_5_code
def yX9_lies : MethodName := ⟨RX9, "lies", "(II)Z"⟩
abbrev cX9_liarsBy : ByteArray := prog_11_method_6_code
def yX9_liarsBy : MethodName := ⟨RX9, "liarsBy", "(I)I"⟩
def RX10 : String := "OneWindow"
def TX10 : u_T := fun k => match k with
  | 0 => ("OneWindow", "tape", "LOneWindow$Tape;", true)
  | 1 => ("OneWindow", "fort", "LOneWindow$Fort;", false)
  | 2 => ("OneWindow", "draft", "LOneWindow$Fort;", false)
  | 3 => ("OneWindow", "laws", "[LOneWindow$Law;", true)
  | 4 => ("OneWindow", "lawCount", "I", false)
  | 5 => ("OneWindow", "lawThatHolds", "I", false)
  | 6 => ("OneWindow", "plans", "[LOneWindow$Plan;", true)
  | 7 => ("OneWindow", "planCount", "I", false)
  | 8 => ("OneWindow", "guardsOfTen", "I", false)
  | 9 => ("OneWindow", "now", "LOneWindow$Scene;", true)
  | 10 => ("OneWindow", "apart", "LOneWindow$Scene;", true)
  | 11 => ("OneWindow", "imaged", "LOneWindow$Scene;", true)
  | 12 => ("OneWindow", "hasImage", "Z", false)
  | 13 => ("OneWindow", "diary", "LOneWindow$Diary;", true)
  | 14 => ("OneWindow", "imagedDiary", "LOneWindow$Diary;", true)
  | 15 => ("OneWindow", "acts", "LOneWindow$Acts;", true)
  | 16 => ("OneWindow", "knocking", "LOneWindow$Knocking;", true)
  | 17 => ("OneWindow", "witnesses", "LOneWindow$Witnesses;", true)
  | 18 => ("OneWindow", "codebook", "LOneWindow$Codebook;", true)
  | _ => ("OneWindow", "drawn", "J", false)
def tyX10 : Nat → FieldType := fun k => match k with
  | 0 => .object "OneWindow$Tape"
  | 1 => .object "OneWindow$Fort"
  | 2 => .object "OneWindow$Fort"
  | 3 => .array (.object "OneWindow$Law")
  | 4 => .int
  | 5 => .int
  | 6 => .array (.object "OneWindow$Plan")
  | 7 => .int
  | 8 => .int
  | 9 => .object "OneWindow$Scene"
  | 10 => .object "OneWindow$Scene"
  | 11 => .object "OneWindow$Scene"
  | 12 => .boolean
  | 13 => .object "OneWindow$Diary"
  | 14 => .object "OneWindow$Diary"
  | 15 => .object "OneWindow$Acts"
  | 16 => .object "OneWindow$Knocking"
  | 17 => .object "OneWindow$Witnesses"
  | 18 => .object "OneWindow$Codebook"
  | _ => .long
abbrev wsX100 : List Cond := u_ws RX10 TX10 20
theorem nmX10 : ∀ a, a < 20 → ∀ b, b < 20 → a ≠ b → (TX10 a).2.1 ≠ (TX10 b).2.1 := by decide +kernel
theorem tyX10_ok : ∀ k, k < 20 → parseFieldDescriptor (TX10 k).2.2.1 = some (tyX10 k) := by decide +kernel
abbrev cX10_init : ByteArray := prog_1_method_1_code
def yX10_init : MethodName := ⟨RX10, "<init>", "()V"⟩
abbrev cX10_feed : ByteArray := prog_1_method_2_code
def yX10_feed : MethodName := ⟨RX10, "feed", "(IIIII)I"⟩
abbrev cX10_end : ByteArray := prog_1_method_3_code
def yX10_end : MethodName := ⟨RX10, "end", "(I)Z"⟩
abbrev cX10_fault : ByteArray := prog_1_method_4_code
def yX10_fault : MethodName := ⟨RX10, "fault", "(I)I"⟩
abbrev cX10_text : ByteArray := prog_1_method_5_code
def yX10_text : MethodName := ⟨RX10, "text", "(I)I"⟩
abbrev cX10_isSort : ByteArray := prog_1_method_6_code
def yX10_isSort : MethodName := ⟨RX10, "isSort", "(I)Z"⟩
abbrev cX10_faultOfTape : ByteArray := prog_1_method_7_code
def yX10_faultOfTape : MethodName := ⟨RX10, "faultOfTape", "(I)I"⟩
abbrev cX10_openFort : ByteArray := prog_1_method_8_code
def yX10_openFort : MethodName := ⟨RX10, "openFort", "()I"⟩
abbrev cX10_rule : ByteArray := prog_1_method_9_code
def yX10_rule : MethodName := ⟨RX10, "rule", "(I)I"⟩
abbrev cX10_prisoner : ByteArray := prog_1_method_10_code
def yX10_prisoner : MethodName := ⟨RX10, "prisoner", "(II)I"⟩
abbrev cX10_cell : ByteArray := prog_1_method_11_code
def yX10_cell : MethodName := ⟨RX10, "cell", "(II)I"⟩
abbrev cX10_event : ByteArray := prog_1_method_12_code
def yX10_event : MethodName := ⟨RX10, "event", "(II)I"⟩
abbrev cX10_law : ByteArray := prog_1_method_13_code
def yX10_law : MethodName := ⟨RX10, "law", "(I)Z"⟩
abbrev cX10_guards : ByteArray := prog_1_method_14_code
def yX10_guards : MethodName := ⟨RX10, "guards", "(I)Z"⟩
abbrev cX10_log : ByteArray := prog_1_method_15_code
def yX10_log : MethodName := ⟨RX10, "log", "(II)I"⟩
abbrev cX10_count : ByteArray := prog_1_method_16_code
def yX10_count : MethodName := ⟨RX10, "count", "(I)I"⟩
abbrev cX10_hasFort : ByteArray := prog_1_method_17_code
def yX10_hasFort : MethodName := ⟨RX10, "hasFort", "()Z"⟩
abbrev cX10_isPrisoner : ByteArray := prog_1_method_18_code
def yX10_isPrisoner : MethodName := ⟨RX10, "isPrisoner", "(I)Z"⟩
abbrev cX10_isCell : ByteArray := prog_1_method_19_code
def yX10_isCell : MethodName := ⟨RX10, "isCell", "(I)Z"⟩
abbrev cX10_isEvent : ByteArray := prog_1_method_20_code
def yX10_isEvent : MethodName := ⟨RX10, "isEvent", "(I)Z"⟩
abbrev cX10_teller : ByteArray := prog_1_method_21_code
def yX10_teller : MethodName := ⟨RX10, "teller", "()I"⟩
abbrev cX10_logged : ByteArray := prog_1_method_22_code
def yX10_logged : MethodName := ⟨RX10, "logged", "()I"⟩
abbrev cX10_lawNow : ByteArray := prog_1_method_23_code
def yX10_lawNow : MethodName := ⟨RX10, "lawNow", "()LOneWindow$Law;"⟩
abbrev cX10_see : ByteArray := prog_1_method_24_code
def yX10_see : MethodName := ⟨RX10, "see", "(I)I"⟩
abbrev cX10_tell : ByteArray := prog_1_method_25_code
def yX10_tell : MethodName := ⟨RX10, "tell", "()I"⟩
abbrev cX10_move : ByteArray := prog_1_method_26_code
def yX10_move : MethodName := ⟨RX10, "move", "(II)I"⟩
abbrev cX10_mirror : ByteArray := prog_1_method_27_code
def yX10_mirror : MethodName := ⟨RX10, "mirror", "(II)Z"⟩
abbrev cX10_code : ByteArray := prog_1_method_28_code
def yX10_code : MethodName := ⟨RX10, "code", "()I"⟩
abbrev cX10_days : ByteArray := prog_1_method_29_code
def yX10_days : MethodName := ⟨RX10, "days", "(I)I"⟩
abbrev cX10_years : ByteArray := prog_1_method_30_code
def yX10_years : MethodName := ⟨RX10, "years", "(IJ)I"⟩
abbrev cX10_undo : ByteArray := prog_1_method_31_code
def yX10_undo : MethodName := ⟨RX10, "undo", "()I"⟩
abbrev cX10_image : ByteArray := prog_1_method_32_code
def yX10_image : MethodName := ⟨RX10, "image", "()I"⟩
abbrev cX10_back : ByteArray := prog_1_method_33_code
def yX10_back : MethodName := ⟨RX10, "back", "()I"⟩
abbrev cX10_canSpend : ByteArray := prog_1_method_34_code
def yX10_canSpend : MethodName := ⟨RX10, "canSpend", "(I)Z"⟩
abbrev cX10_acted : ByteArray := prog_1_method_35_code
def yX10_acted : MethodName := ⟨RX10, "acted", "(III)Z"⟩
abbrev cX10_canBe : ByteArray := prog_1_method_36_code
def yX10_canBe : MethodName := ⟨RX10, "canBe", "(LOneWindow$Scene;III)Z"⟩
abbrev cX10_change : ByteArray := prog_1_method_37_code
def yX10_change : MethodName := ⟨RX10, "change", "(LOneWindow$Scene;III)V"⟩
abbrev cX10_drawDay : ByteArray := prog_1_method_38_code
def yX10_drawDay : MethodName := ⟨RX10, "drawDay", "()V"⟩
abbrev cX10_drawOfTen : ByteArray := prog_1_method_39_code
def yX10_drawOfTen : MethodName := ⟨RX10, "drawOfTen", "()I"⟩
abbrev cX10_worthiestBut : ByteArray := prog_1_method_40_code
def yX10_worthiestBut : MethodName := ⟨RX10, "worthiestBut", "(I)I"⟩
abbrev cX10_step : ByteArray := prog_1_method_41_code
def yX10_step : MethodName := ⟨RX10, "step", "(III)I"⟩
abbrev cX10_run : ByteArray := prog_1_method_42_code
def yX10_run : MethodName := ⟨RX10, "run", "(II)I"⟩
abbrev cX10_perform : ByteArray := prog_1_method_43_code
def yX10_perform : MethodName := ⟨RX10, "perform", "(I)I"⟩
abbrev cX10_isPlan : ByteArray := prog_1_method_44_code
def yX10_isPlan : MethodName := ⟨RX10, "isPlan", "(I)Z"⟩
abbrev cX10_ranApart : ByteArray := prog_1_method_45_code
def yX10_ranApart : MethodName := ⟨RX10, "ranApart", "(LOneWindow$Plan;I)Z"⟩
abbrev cX10_far : ByteArray := prog_1_method_46_code
def yX10_far : MethodName := ⟨RX10, "far", "(II)I"⟩
abbrev cX10_wall : ByteArray := prog_1_method_47_code
def yX10_wall : MethodName := ⟨RX10, "wall", "(II)I"⟩
abbrev cX10_listen : ByteArray := prog_1_method_48_code
def yX10_listen : MethodName := ⟨RX10, "listen", "(I)I"⟩
abbrev cX10_escape : ByteArray := prog_1_method_49_code
def yX10_escape : MethodName := ⟨RX10, "escape", "(II)I"⟩
abbrev cX10_trust : ByteArray := prog_1_method_50_code
def yX10_trust : MethodName := ⟨RX10, "trust", "(I)I"⟩
abbrev cX10_wears : ByteArray := prog_1_method_51_code
def yX10_wears : MethodName := ⟨RX10, "wears", "()I"⟩
abbrev cX10_hearersFrom : ByteArray := prog_1_method_52_code
def yX10_hearersFrom : MethodName := ⟨RX10, "hearersFrom", "(II)I"⟩
abbrev cX10_seat : ByteArray := prog_1_method_53_code
def yX10_seat : MethodName := ⟨RX10, "seat", "(I)I"⟩
abbrev cX10_best : ByteArray := prog_1_method_54_code
def yX10_best : MethodName := ⟨RX10, "best", "()I"⟩
abbrev cX10_swap : ByteArray := prog_1_method_55_code
def yX10_swap : MethodName := ⟨RX10, "swap", "(I)I"⟩
abbrev cX10_price : ByteArray := prog_1_method_56_code
def yX10_price : MethodName := ⟨RX10, "price", "(I)I"⟩
abbrev cX10_buys : ByteArray := prog_1_method_57_code
def yX10_buys : MethodName := ⟨RX10, "buys", "(IIII)I"⟩
abbrev cX10_rests : ByteArray := prog_1_method_58_code
def yX10_rests : MethodName := ⟨RX10, "rests", "(III)I"⟩
abbrev cX10_seatOf : ByteArray := prog_1_method_59_code
def yX10_seatOf : MethodName := ⟨RX10, "seatOf", "(I)I"⟩
abbrev cX10_gainApart : ByteArray := prog_1_method_60_code
def yX10_gainApart : MethodName := ⟨RX10, "gainApart", "(I)I"⟩
abbrev cX10_canBuy : ByteArray := prog_1_method_61_code
def yX10_canBuy : MethodName := ⟨RX10, "canBuy", "(II)Z"⟩
abbrev cX10_hearApart : ByteArray := prog_1_method_62_code
def yX10_hearApart : MethodName := ⟨RX10, "hearApart", "()V"⟩
abbrev cX10_has : ByteArray := prog_1_method_63_code
def yX10_has : MethodName := ⟨RX10, "has", "(IIII)I"⟩
abbrev cX10_codes : ByteArray := prog_1_method_64_code
def yX10_codes : MethodName := ⟨RX10, "codes", "(I)I"⟩
abbrev cX10_merits : ByteArray := prog_1_method_65_code
def yX10_merits : MethodName := ⟨RX10, "merits", "()I"⟩
abbrev cX10_quiet : ByteArray := prog_1_method_66_code
def yX10_quiet : MethodName := ⟨RX10, "quiet", "()I"⟩
abbrev cX10_rich : ByteArray := prog_1_method_67_code
def yX10_rich : MethodName := ⟨RX10, "rich", "()I"⟩
abbrev cX10_most : ByteArray := prog_1_method_68_code
def yX10_most : MethodName := ⟨RX10, "most", "()I"⟩
abbrev cX10_said : ByteArray := prog_1_method_69_code
def yX10_said : MethodName := ⟨RX10, "said", "(IIZ)I"⟩
abbrev cX10_least : ByteArray := prog_1_method_70_code
def yX10_least : MethodName := ⟨RX10, "least", "()I"⟩
abbrev cX10_truths : ByteArray := prog_1_method_71_code
def yX10_truths : MethodName := ⟨RX10, "truths", "(II)I"⟩
abbrev cX10_sure : ByteArray := prog_1_method_72_code
def yX10_sure : MethodName := ⟨RX10, "sure", "(II)I"⟩
abbrev cX10_ask : ByteArray := prog_1_method_73_code
def yX10_ask : MethodName := ⟨RX10, "ask", "(I)I"⟩
abbrev cX10_liars : ByteArray := prog_1_method_74_code
def yX10_liars : MethodName := ⟨RX10, "liars", "()I"⟩
abbrev cX10_belief : ByteArray := prog_1_method_75_code
def yX10_belief : MethodName := ⟨RX10, "belief", "(I)I"⟩
abbrev cX10_canDoubt : ByteArray := prog_1_method_76_code
def yX10_canDoubt : MethodName := ⟨RX10, "canDoubt", "(I)Z"⟩
abbrev cX10_allTruths : ByteArray := prog_1_method_77_code
def yX10_allTruths : MethodName := ⟨RX10, "allTruths", "()I"⟩
abbrev cX10_liarsBy : ByteArray := prog_1_method_78_code
def yX10_liarsBy : MethodName := ⟨RX10, "liarsBy", "(I)I"⟩
abbrev cX10_fewestLiars : ByteArray := prog_1_method_79_code
def yX10_fewestLiars : MethodName := ⟨RX10, "fewestLiars", "()I"⟩
abbrev cX10_yesLessNo : ByteArray := prog_1_method_80_code
def yX10_yesLessNo : MethodName := ⟨RX10, "yesLessNo", "(II)I"⟩
abbrev cX10_likelihood : ByteArray := prog_1_method_81_code
def yX10_likelihood : MethodName := ⟨RX10, "likelihood", "(I)J"⟩
abbrev cX10_partsOf : ByteArray := prog_1_method_82_code
def yX10_partsOf : MethodName := ⟨RX10, "partsOf", "(JJ)I"⟩
def RX11 : String := "OneWindowModel"
def TX11 : u_T := fun k => match k with
  | 0 => ("OneWindowModel", "thrown", "I", false)
  | 1 => ("OneWindowModel", "tape", "[B", true)
  | 2 => ("OneWindowModel", "texts", "[B", true)
  | 3 => ("OneWindowModel", "textLong", "[I", true)
  | 4 => ("OneWindowModel", "letters", "[I", true)
  | 5 => ("OneWindowModel", "text", "[B", false)
  | 6 => ("OneWindowModel", "length", "I", false)
  | 7 => ("OneWindowModel", "lawMany", "I", false)
  | 8 => ("OneWindowModel", "begins", "I", false)
  | 9 => ("OneWindowModel", "ends", "I", false)
  | 10 => ("OneWindowModel", "at", "I", false)
  | 11 => ("OneWindowModel", "fault", "I", false)
  | 12 => ("OneWindowModel", "deep", "I", false)
  | 13 => ("OneWindowModel", "label", "I", false)
  | 14 => ("OneWindowModel", "found", "I", false)
  | 15 => ("OneWindowModel", "labels", "Ljava/lang/String;", true)
  | 16 => ("OneWindowModel", "allowed", "Ljava/lang/String;", true)
  | 17 => ("OneWindowModel", "hasFound", "Z", false)
  | 18 => ("OneWindowModel", "rule", "[I", true)
  | 19 => ("OneWindowModel", "ruleRead", "[I", true)
  | 20 => ("OneWindowModel", "cell", "[I", true)
  | 21 => ("OneWindowModel", "cellRead", "[I", true)
  | 22 => ("OneWindowModel", "event", "[I", true)
  | 23 => ("OneWindowModel", "eventRead", "[I", true)
  | 24 => ("OneWindowModel", "plan", "[I", true)
  | 25 => ("OneWindowModel", "planLong", "[I", true)
  | 26 => ("OneWindowModel", "cells", "I", false)
  | 27 => ("OneWindowModel", "events", "I", false)
  | 28 => ("OneWindowModel", "cellsRead", "I", false)
  | 29 => ("OneWindowModel", "eventsRead", "I", false)
  | 30 => ("OneWindowModel", "plans", "I", false)
  | 31 => ("OneWindowModel", "hasRules", "Z", false)
  | 32 => ("OneWindowModel", "now", "[I", true)
  | 33 => ("OneWindowModel", "trial", "[I", true)
  | 34 => ("OneWindowModel", "law", "I", false)
  | 35 => ("OneWindowModel", "guarding", "I", false)
  | 36 => ("OneWindowModel", "strength", "[I", true)
  | 37 => ("OneWindowModel", "undoRow", "[I", true)
  | 38 => ("OneWindowModel", "acts", "I", false)
  | 39 => ("OneWindowModel", "x", "J", false)
  | 40 => ("OneWindowModel", "codeDigits", "I", false)
  | 41 => ("OneWindowModel", "codeSum", "I", false)
  | 42 => ("OneWindowModel", "saidBy", "[I", true)
  | 43 => ("OneWindowModel", "saidEvent", "[I", true)
  | 44 => ("OneWindowModel", "saidWas", "[Z", true)
  | 45 => ("OneWindowModel", "saids", "I", false)
  | 46 => ("OneWindowModel", "imageRow", "[I", true)
  | _ => ("OneWindowModel", "hasImage", "Z", false)
def tyX11 : Nat → FieldType := fun k => match k with
  | 0 => .int
  | 1 => .array .byte
  | 2 => .array .byte
  | 3 => .array .int
  | 4 => .array .int
  | 5 => .array .byte
  | 6 => .int
  | 7 => .int
  | 8 => .int
  | 9 => .int
  | 10 => .int
  | 11 => .int
  | 12 => .int
  | 13 => .int
  | 14 => .int
  | 15 => .object "java/lang/String"
  | 16 => .object "java/lang/String"
  | 17 => .boolean
  | 18 => .array .int
  | 19 => .array .int
  | 20 => .array .int
  | 21 => .array .int
  | 22 => .array .int
  | 23 => .array .int
  | 24 => .array .int
  | 25 => .array .int
  | 26 => .int
  | 27 => .int
  | 28 => .int
  | 29 => .int
  | 30 => .int
  | 31 => .boolean
  | 32 => .array .int
  | 33 => .array .int
  | 34 => .int
  | 35 => .int
  | 36 => .array .int
  | 37 => .array .int
  | 38 => .int
  | 39 => .long
  | 40 => .int
  | 41 => .int
  | 42 => .array .int
  | 43 => .array .int
  | 44 => .array .boolean
  | 45 => .int
  | 46 => .array .int
  | _ => .boolean
abbrev wsX110 : List Cond := u_ws RX11 TX11 48
theorem nmX11 : ∀ a, a < 48 → ∀ b, b < 48 → a ≠ b → (TX11 a).2.1 ≠ (TX11 b).2.1 := by decide +kernel
theorem tyX11_ok : ∀ k, k < 48 → parseFieldDescriptor (TX11 k).2.2.1 = some (tyX11 k) := by decide +kernel
abbrev cX11_init : ByteArray := prog_13_method_1_code
def yX11_init : MethodName := ⟨RX11, "<init>", "()V"⟩
abbrev cX11_thrown : ByteArray := prog_13_method_2_code
def yX11_thrown : MethodName := ⟨RX11, "thrown", "()I"⟩
abbrev cX11_isIn : ByteArray := prog_13_method_3_code
def yX11_isIn : MethodName := ⟨RX11, "isIn", "(JJJ)Z"⟩
abbrev cX11_has : ByteArray := prog_13_method_4_code
def yX11_has : MethodName := ⟨RX11, "has", "(II)Z"⟩
abbrev cX11_isAmong : ByteArray := prog_13_method_5_code
def yX11_isAmong : MethodName := ⟨RX11, "isAmong", "(Ljava/lang/String;I)Z"⟩
abbrev cX11_bytesIn : ByteArray := prog_13_method_6_code
def yX11_bytesIn : MethodName := ⟨RX11, "bytesIn", "(I)I"⟩
abbrev cX11_put : ByteArray := prog_13_method_7_code
def yX11_put : MethodName := ⟨RX11, "put", "(I)V"⟩
abbrev cX11_feed : ByteArray := prog_13_method_8_code
def yX11_feed : MethodName := ⟨RX11, "feed", "(IIIII)I"⟩
abbrev cX11_end : ByteArray := prog_13_method_9_code
def yX11_end : MethodName := ⟨RX11, "end", "(I)Z"⟩
abbrev cX11_look : ByteArray := prog_13_method_10_code
def yX11_look : MethodName := ⟨RX11, "look", "()I"⟩
abbrev cX11_fails : ByteArray := prog_13_method_11_code
def yX11_fails : MethodName := ⟨RX11, "fails", "()Z"⟩
abbrev cX11_goesIn : ByteArray := prog_13_method_12_code
def yX11_goesIn : MethodName := ⟨RX11, "goesIn", "()Z"⟩
abbrev cX11_takes : ByteArray := prog_13_method_13_code
def yX11_takes : MethodName := ⟨RX11, "takes", "(I)Z"⟩
abbrev cX11_isDigit : ByteArray := prog_13_method_14_code
def yX11_isDigit : MethodName := ⟨RX11, "isDigit", "()Z"⟩
abbrev cX11_within : ByteArray := prog_13_method_15_code
def yX11_within : MethodName := ⟨RX11, "within", "(J)I"⟩
abbrev cX11_atom : ByteArray := prog_13_method_16_code
def yX11_atom : MethodName := ⟨RX11, "atom", "()I"⟩
abbrev cX11_term : ByteArray := prog_13_method_17_code
def yX11_term : MethodName := ⟨RX11, "term", "()I"⟩
abbrev cX11_sum : ByteArray := prog_13_method_18_code
def yX11_sum : MethodName := ⟨RX11, "sum", "()I"⟩
abbrev cX11_isSign : ByteArray := prog_13_method_19_code
def yX11_isSign : MethodName := ⟨RX11, "isSign", "(I)Z"⟩
abbrev cX11_compares : ByteArray := prog_13_method_20_code
def yX11_compares : MethodName := ⟨RX11, "compares", "(ZI)Z"⟩
abbrev cX11_unit : ByteArray := prog_13_method_21_code
def yX11_unit : MethodName := ⟨RX11, "unit", "()Z"⟩
abbrev cX11_part : ByteArray := prog_13_method_22_code
def yX11_part : MethodName := ⟨RX11, "part", "(ZI)Z"⟩
abbrev cX11_condition : ByteArray := prog_13_method_23_code
def yX11_condition : MethodName := ⟨RX11, "condition", "(ZI)Z"⟩
abbrev cX11_clause : ByteArray := prog_13_method_24_code
def yX11_clause : MethodName := ⟨RX11, "clause", "()V"⟩
abbrev cX11_starts : ByteArray := prog_13_method_25_code
def yX11_starts : MethodName := ⟨RX11, "starts", "([BII)V"⟩
abbrev cX11_goThrough : ByteArray := prog_13_method_26_code
def yX11_goThrough : MethodName := ⟨RX11, "goThrough", "([BII)V"⟩
abbrev cX11_here : ByteArray := prog_13_method_27_code
def yX11_here : MethodName := ⟨RX11, "here", "()I"⟩
abbrev cX11_spotOf : ByteArray := prog_13_method_28_code
def yX11_spotOf : MethodName := ⟨RX11, "spotOf", "(Ljava/lang/String;I)I"⟩
abbrev cX11_number : ByteArray := prog_13_method_29_code
def yX11_number : MethodName := ⟨RX11, "number", "(II)I"⟩
abbrev cX11_mostOf : ByteArray := prog_13_method_30_code
def yX11_mostOf : MethodName := ⟨RX11, "mostOf", "(II)I"⟩
abbrev cX11_leastOf : ByteArray := prog_13_method_31_code
def yX11_leastOf : MethodName := ⟨RX11, "leastOf", "(II)I"⟩
abbrev cX11_usual : ByteArray := prog_13_method_32_code
def yX11_usual : MethodName := ⟨RX11, "usual", "(II)I"⟩
abbrev cX11_readItems : ByteArray := prog_13_method_33_code
def yX11_readItems : MethodName := ⟨RX11, "readItems", "(I[IILjava/lang/String;)V"⟩
abbrev cX11_readClause : ByteArray := prog_13_method_34_code
def yX11_readClause : MethodName := ⟨RX11, "readClause", "()V"⟩
abbrev cX11_readFort : ByteArray := prog_13_method_35_code
def yX11_readFort : MethodName := ⟨RX11, "readFort", "()V"⟩
abbrev cX11_digit : ByteArray := prog_13_method_36_code
def yX11_digit : MethodName := ⟨RX11, "digit", "()I"⟩
abbrev cX11_readStep : ByteArray := prog_13_method_37_code
def yX11_readStep : MethodName := ⟨RX11, "readStep", "(I)V"⟩
abbrev cX11_readPlan : ByteArray := prog_13_method_38_code
def yX11_readPlan : MethodName := ⟨RX11, "readPlan", "()V"⟩
abbrev cX11_fault : ByteArray := prog_13_method_39_code
def yX11_fault : MethodName := ⟨RX11, "fault", "(I)I"⟩
abbrev cX11_text : ByteArray := prog_13_method_40_code
def yX11_text : MethodName := ⟨RX11, "text", "(I)I"⟩
abbrev cX11_copy : ByteArray := prog_13_method_41_code
def yX11_copy : MethodName := ⟨RX11, "copy", "([I[I)V"⟩
abbrev cX11_isPrisoner : ByteArray := prog_13_method_42_code
def yX11_isPrisoner : MethodName := ⟨RX11, "isPrisoner", "(I)Z"⟩
abbrev cX11_isEvent : ByteArray := prog_13_method_43_code
def yX11_isEvent : MethodName := ⟨RX11, "isEvent", "(I)Z"⟩
abbrev cX11_told : ByteArray := prog_13_method_44_code
def yX11_told : MethodName := ⟨RX11, "told", "(II)I"⟩
abbrev cX11_inCell : ByteArray := prog_13_method_45_code
def yX11_inCell : MethodName := ⟨RX11, "inCell", "([II)I"⟩
abbrev cX11_teller : ByteArray := prog_13_method_46_code
def yX11_teller : MethodName := ⟨RX11, "teller", "([I)I"⟩
abbrev cX11_takes_ : ByteArray := prog_13_method_47_code
def yX11_takes_ : MethodName := ⟨RX11, "takes", "([IIII)I"⟩
abbrev cX11_knocks : ByteArray := prog_13_method_48_code
def yX11_knocks : MethodName := ⟨RX11, "knocks", "([III)V"⟩
abbrev cX11_isHeard : ByteArray := prog_13_method_49_code
def yX11_isHeard : MethodName := ⟨RX11, "isHeard", "([II)Z"⟩
abbrev cX11_isWorn : ByteArray := prog_13_method_50_code
def yX11_isWorn : MethodName := ⟨RX11, "isWorn", "([I)Z"⟩
abbrev cX11_tellsOne : ByteArray := prog_13_method_51_code
def yX11_tellsOne : MethodName := ⟨RX11, "tellsOne", "([III)I"⟩
abbrev cX11_isToldBy : ByteArray := prog_13_method_52_code
def yX11_isToldBy : MethodName := ⟨RX11, "isToldBy", "([II)Z"⟩
abbrev cX11_tells : ByteArray := prog_13_method_53_code
def yX11_tells : MethodName := ⟨RX11, "tells", "([I)I"⟩
abbrev cX11_darkens : ByteArray := prog_13_method_54_code
def yX11_darkens : MethodName := ⟨RX11, "darkens", "([I)V"⟩
abbrev cX11_rule : ByteArray := prog_13_method_55_code
def yX11_rule : MethodName := ⟨RX11, "rule", "(I)I"⟩
abbrev cX11_prisoner : ByteArray := prog_13_method_56_code
def yX11_prisoner : MethodName := ⟨RX11, "prisoner", "(II)I"⟩
abbrev cX11_cell : ByteArray := prog_13_method_57_code
def yX11_cell : MethodName := ⟨RX11, "cell", "(II)I"⟩
abbrev cX11_event : ByteArray := prog_13_method_58_code
def yX11_event : MethodName := ⟨RX11, "event", "(II)I"⟩
abbrev cX11_law : ByteArray := prog_13_method_59_code
def yX11_law : MethodName := ⟨RX11, "law", "(I)Z"⟩
abbrev cX11_guards : ByteArray := prog_13_method_60_code
def yX11_guards : MethodName := ⟨RX11, "guards", "(I)Z"⟩
abbrev cX11_remember : ByteArray := prog_13_method_61_code
def yX11_remember : MethodName := ⟨RX11, "remember", "()V"⟩
abbrev cX11_canSee : ByteArray := prog_13_method_62_code
def yX11_canSee : MethodName := ⟨RX11, "canSee", "([II)Z"⟩
abbrev cX11_see : ByteArray := prog_13_method_63_code
def yX11_see : MethodName := ⟨RX11, "see", "(I)I"⟩
abbrev cX11_canTell : ByteArray := prog_13_method_64_code
def yX11_canTell : MethodName := ⟨RX11, "canTell", "([I)Z"⟩
abbrev cX11_tell : ByteArray := prog_13_method_65_code
def yX11_tell : MethodName := ⟨RX11, "tell", "()I"⟩
abbrev cX11_canMove : ByteArray := prog_13_method_66_code
def yX11_canMove : MethodName := ⟨RX11, "canMove", "(II)Z"⟩
abbrev cX11_changes : ByteArray := prog_13_method_67_code
def yX11_changes : MethodName := ⟨RX11, "changes", "([III)V"⟩
abbrev cX11_move : ByteArray := prog_13_method_68_code
def yX11_move : MethodName := ⟨RX11, "move", "(II)I"⟩
abbrev cX11_mirror : ByteArray := prog_13_method_69_code
def yX11_mirror : MethodName := ⟨RX11, "mirror", "(II)Z"⟩
abbrev cX11_richest : ByteArray := prog_13_method_70_code
def yX11_richest : MethodName := ⟨RX11, "richest", "([I)I"⟩
abbrev cX11_canCode : ByteArray := prog_13_method_71_code
def yX11_canCode : MethodName := ⟨RX11, "canCode", "([I)Z"⟩
abbrev cX11_renews : ByteArray := prog_13_method_72_code
def yX11_renews : MethodName := ⟨RX11, "renews", "([I)I"⟩
abbrev cX11_code : ByteArray := prog_13_method_73_code
def yX11_code : MethodName := ⟨RX11, "code", "()I"⟩
abbrev cX11_mayPass : ByteArray := prog_13_method_74_code
def yX11_mayPass : MethodName := ⟨RX11, "mayPass", "(I)Z"⟩
abbrev cX11_days : ByteArray := prog_13_method_75_code
def yX11_days : MethodName := ⟨RX11, "days", "(I)I"⟩
abbrev cX11_draw : ByteArray := prog_13_method_76_code
def yX11_draw : MethodName := ⟨RX11, "draw", "(I)I"⟩
abbrev cX11_bestOther : ByteArray := prog_13_method_77_code
def yX11_bestOther : MethodName := ⟨RX11, "bestOther", "(I)I"⟩
abbrev cX11_years : ByteArray := prog_13_method_78_code
def yX11_years : MethodName := ⟨RX11, "years", "(IJ)I"⟩
abbrev cX11_undo : ByteArray := prog_13_method_79_code
def yX11_undo : MethodName := ⟨RX11, "undo", "()I"⟩
abbrev cX11_log : ByteArray := prog_13_method_80_code
def yX11_log : MethodName := ⟨RX11, "log", "(II)I"⟩
abbrev cX11_isPlan : ByteArray := prog_13_method_81_code
def yX11_isPlan : MethodName := ⟨RX11, "isPlan", "(I)Z"⟩
abbrev cX11_step : ByteArray := prog_13_method_82_code
def yX11_step : MethodName := ⟨RX11, "step", "(III)I"⟩
abbrev cX11_canStep : ByteArray := prog_13_method_83_code
def yX11_canStep : MethodName := ⟨RX11, "canStep", "([II)Z"⟩
abbrev cX11_steps : ByteArray := prog_13_method_84_code
def yX11_steps : MethodName := ⟨RX11, "steps", "([II)V"⟩
abbrev cX11_run : ByteArray := prog_13_method_85_code
def yX11_run : MethodName := ⟨RX11, "run", "(II)I"⟩
abbrev cX11_perform : ByteArray := prog_13_method_86_code
def yX11_perform : MethodName := ⟨RX11, "perform", "(I)I"⟩
abbrev cX11_far : ByteArray := prog_13_method_87_code
def yX11_far : MethodName := ⟨RX11, "far", "(II)I"⟩
abbrev cX11_wall : ByteArray := prog_13_method_88_code
def yX11_wall : MethodName := ⟨RX11, "wall", "(II)I"⟩
abbrev cX11_seatOf : ByteArray := prog_13_method_89_code
def yX11_seatOf : MethodName := ⟨RX11, "seatOf", "([II)I"⟩
abbrev cX11_seatBy : ByteArray := prog_13_method_90_code
def yX11_seatBy : MethodName := ⟨RX11, "seatBy", "(I)I"⟩
abbrev cX11_seat : ByteArray := prog_13_method_91_code
def yX11_seat : MethodName := ⟨RX11, "seat", "(I)I"⟩
abbrev cX11_best : ByteArray := prog_13_method_92_code
def yX11_best : MethodName := ⟨RX11, "best", "()I"⟩
abbrev cX11_goCodes : ByteArray := prog_13_method_93_code
def yX11_goCodes : MethodName := ⟨RX11, "goCodes", "(IIII)V"⟩
abbrev cX11_codes : ByteArray := prog_13_method_94_code
def yX11_codes : MethodName := ⟨RX11, "codes", "(I)I"⟩
abbrev cX11_said : ByteArray := prog_13_method_95_code
def yX11_said : MethodName := ⟨RX11, "said", "(IIZ)I"⟩
abbrev cX11_liarsBy : ByteArray := prog_13_method_96_code
def yX11_liarsBy : MethodName := ⟨RX11, "liarsBy", "(I)I"⟩
abbrev cX11_truthMany : ByteArray := prog_13_method_97_code
def yX11_truthMany : MethodName := ⟨RX11, "truthMany", "()I"⟩
abbrev cX11_leastLiars : ByteArray := prog_13_method_98_code
def yX11_leastLiars : MethodName := ⟨RX11, "leastLiars", "()I"⟩
abbrev cX11_least : ByteArray := prog_13_method_99_code
def yX11_least : MethodName := ⟨RX11, "least", "()I"⟩
abbrev cX11_mayAsk : ByteArray := prog_13_method_100_code
def yX11_mayAsk : MethodName := ⟨RX11, "mayAsk", "(I)Z"⟩
abbrev cX11_truths : ByteArray := prog_13_method_101_code
def yX11_truths : MethodName := ⟨RX11, "truths", "(II)I"⟩
abbrev cX11_sure : ByteArray := prog_13_method_102_code
def yX11_sure : MethodName := ⟨RX11, "sure", "(II)I"⟩
abbrev cX11_ask : ByteArray := prog_13_method_103_code
def yX11_ask : MethodName := ⟨RX11, "ask", "(I)I"⟩
abbrev cX11_liars : ByteArray := prog_13_method_104_code
def yX11_liars : MethodName := ⟨RX11, "liars", "()I"⟩
abbrev cX11_weightOf : ByteArray := prog_13_method_105_code
def yX11_weightOf : MethodName := ⟨RX11, "weightOf", "(I)J"⟩
abbrev cX11_belief : ByteArray := prog_13_method_106_code
def yX11_belief : MethodName := ⟨RX11, "belief", "(I)I"⟩
abbrev cX11_trust : ByteArray := prog_13_method_107_code
def yX11_trust : MethodName := ⟨RX11, "trust", "(I)I"⟩
abbrev cX11_hears : ByteArray := prog_13_method_108_code
def yX11_hears : MethodName := ⟨RX11, "hears", "(II)I"⟩
abbrev cX11_escape : ByteArray := prog_13_method_109_code
def yX11_escape : MethodName := ⟨RX11, "escape", "(II)I"⟩
abbrev cX11_wears : ByteArray := prog_13_method_110_code
def yX11_wears : MethodName := ⟨RX11, "wears", "()I"⟩
abbrev cX11_listen : ByteArray := prog_13_method_111_code
def yX11_listen : MethodName := ⟨RX11, "listen", "(I)I"⟩
abbrev cX11_merits : ByteArray := prog_13_method_112_code
def yX11_merits : MethodName := ⟨RX11, "merits", "()I"⟩
abbrev cX11_swap : ByteArray := prog_13_method_113_code
def yX11_swap : MethodName := ⟨RX11, "swap", "(I)I"⟩
abbrev cX11_quiet : ByteArray := prog_13_method_114_code
def yX11_quiet : MethodName := ⟨RX11, "quiet", "()I"⟩
abbrev cX11_rich : ByteArray := prog_13_method_115_code
def yX11_rich : MethodName := ⟨RX11, "rich", "()I"⟩
abbrev cX11_most : ByteArray := prog_13_method_116_code
def yX11_most : MethodName := ⟨RX11, "most", "()I"⟩
abbrev cX11_price : ByteArray := prog_13_method_117_code
def yX11_price : MethodName := ⟨RX11, "price", "(I)I"⟩
abbrev cX11_canBuy : ByteArray := prog_13_method_118_code
def yX11_canBuy : MethodName := ⟨RX11, "canBuy", "(II)Z"⟩
abbrev cX11_buysOf : ByteArray := prog_13_method_119_code
def yX11_buysOf : MethodName := ⟨RX11, "buysOf", "(IIII)I"⟩
abbrev cX11_buys : ByteArray := prog_13_method_120_code
def yX11_buys : MethodName := ⟨RX11, "buys", "(IIII)I"⟩
abbrev cX11_rests : ByteArray := prog_13_method_121_code
def yX11_rests : MethodName := ⟨RX11, "rests", "(III)I"⟩
abbrev cX11_image : ByteArray := prog_13_method_122_code
def yX11_image : MethodName := ⟨RX11, "image", "()I"⟩
abbrev cX11_back : ByteArray := prog_13_method_123_code
def yX11_back : MethodName := ⟨RX11, "back", "()I"⟩
abbrev cX11_count : ByteArray := prog_13_method_124_code
def yX11_count : MethodName := ⟨RX11, "count", "(I)I"⟩
def RJ11 : String := "java/lang/Character"
def TJ11 : u_T := fun k => match k with
  | _ => ("", "", "", false)
def tyJ11 : Nat → FieldType := fun k => match k with
  | _ => .int
abbrev wsJ110 : List Cond := u_ws RJ11 TJ11 0
theorem nmJ11 : ∀ a, a < 0 → ∀ b, b < 0 → a ≠ b → (TJ11 a).2.1 ≠ (TJ11 b).2.1 := by decide +kernel
theorem tyJ11_ok : ∀ k, k < 0 → parseFieldDescriptor (TJ11 k).2.2.1 = some (tyJ11 k) := by decide +kernel
abbrev cJ11_isValidCodePoint_9a6ad : ByteArray := prog_16_method_11_code
def yJ11_isValidCodePoint_9a6ad : MethodName := ⟨RJ11, "isValidCodePoint", "(I)Z"⟩
abbrev cJ11_highSurrogate_5068e : ByteArray := prog_16_method_28_code
def yJ11_highSurrogate_5068e : MethodName := ⟨RJ11, "highSurrogate", "(I)C"⟩
abbrev cJ11_lowSurrogate_5068e : ByteArray := prog_16_method_29_code
def yJ11_lowSurrogate_5068e : MethodName := ⟨RJ11, "lowSurrogate", "(I)C"⟩
def RJ6 : String := "java/lang/Integer"
def TJ6 : u_T := fun k => match k with
  | _ => ("", "", "", false)
def tyJ6 : Nat → FieldType := fun k => match k with
  | _ => .int
abbrev wsJ60 : List Cond := u_ws RJ6 TJ6 0
theorem nmJ6 : ∀ a, a < 0 → ∀ b, b < 0 → a ≠ b → (TJ6 a).2.1 ≠ (TJ6 b).2.1 := by decide +kernel
theorem tyJ6_ok : ∀ k, k < 0 → parseFieldDescriptor (TJ6 k).2.2.1 = some (tyJ6 k) := by decide +kernel
abbrev cJ6_bitCount_0f7a4 : ByteArray := prog_19_method_49_code
def yJ6_bitCount_0f7a4 : MethodName := ⟨RJ6, "bitCount", "(I)I"⟩
def RJ9 : String := "java/lang/Math"
def TJ9 : u_T := fun k => match k with
  | _ => ("", "", "", false)
def tyJ9 : Nat → FieldType := fun k => match k with
  | _ => .int
abbrev wsJ90 : List Cond := u_ws RJ9 TJ9 0
theorem nmJ9 : ∀ a, a < 0 → ∀ b, b < 0 → a ≠ b → (TJ9 a).2.1 ≠ (TJ9 b).2.1 := by decide +kernel
theorem tyJ9_ok : ∀ k, k < 0 → parseFieldDescriptor (TJ9 k).2.2.1 = some (tyJ9 k) := by decide +kernel
abbrev cJ9_abs_0f7a4 : ByteArray := prog_20_method_59_code
def yJ9_abs_0f7a4 : MethodName := ⟨RJ9, "abs", "(I)I"⟩
abbrev cJ9_max_7cf53 : ByteArray := prog_20_method_65_code
def yJ9_max_7cf53 : MethodName := ⟨RJ9, "max", "(II)I"⟩
abbrev cJ9_max_f86c9 : ByteArray := prog_20_method_66_code
def yJ9_max_f86c9 : MethodName := ⟨RJ9, "max", "(JJ)J"⟩
abbrev cJ9_min_7cf53 : ByteArray := prog_20_method_69_code
def yJ9_min_7cf53 : MethodName := ⟨RJ9, "min", "(II)I"⟩
abbrev cJ9_min_f86c9 : ByteArray := prog_20_method_70_code
def yJ9_min_f86c9 : MethodName := ⟨RJ9, "min", "(JJ)J"⟩
def RJ0 : String := "java/lang/String"
def TJ0 : u_T := fun k => match k with
  | _ => ("", "", "", false)
def tyJ0 : Nat → FieldType := fun k => match k with
  | _ => .int
abbrev wsJ00 : List Cond := u_ws RJ0 TJ0 0
theorem nmJ0 : ∀ a, a < 0 → ∀ b, b < 0 → a ≠ b → (TJ0 a).2.1 ≠ (TJ0 b).2.1 := by decide +kernel
theorem tyJ0_ok : ∀ k, k < 0 → parseFieldDescriptor (TJ0 k).2.2.1 = some (tyJ0 k) := by decide +kernel
abbrev cJ0_length_8abf5 : ByteArray := prog_22_method_54_code
def yJ0_length_8abf5 : MethodName := ⟨RJ0, "length", "()I"⟩
abbrev cJ0_charAt_5068e : ByteArray := prog_22_method_56_code
def yJ0_charAt_5068e : MethodName := ⟨RJ0, "charAt", "(I)C"⟩
abbrev cJ0_indexOf_0f7a4 : ByteArray := prog_22_method_79_code
def yJ0_indexOf_0f7a4 : MethodName := ⟨RJ0, "indexOf", "(I)I"⟩
abbrev cJ0_indexOf_7cf53 : ByteArray := prog_22_method_80_code
def yJ0_indexOf_7cf53 : MethodName := ⟨RJ0, "indexOf", "(II)I"⟩
abbrev cJ0_coder_7d493 : ByteArray := prog_22_method_152_code
def yJ0_coder_7d493 : MethodName := ⟨RJ0, "coder", "()B"⟩
abbrev cJ0_isLatin1_aae02 : ByteArray := prog_22_method_154_code
def yJ0_isLatin1_aae02 : MethodName := ⟨RJ0, "isLatin1", "()Z"⟩
abbrev cJ0_checkIndex_df160 : ByteArray := prog_22_method_155_code
def yJ0_checkIndex_df160 : MethodName := ⟨RJ0, "checkIndex", "(II)V"⟩
abbrev cJ0_checkBoundsBeginEnd_23922 : ByteArray := prog_22_method_158_code
def yJ0_checkBoundsBeginEnd_23922 : MethodName := ⟨RJ0, "checkBoundsBeginEnd", "(III)V"⟩
def RJ1 : String := "java/lang/StringLatin1"
def TJ1 : u_T := fun k => match k with
  | _ => ("", "", "", false)
def tyJ1 : Nat → FieldType := fun k => match k with
  | _ => .int
abbrev wsJ10 : List Cond := u_ws RJ1 TJ1 0
theorem nmJ1 : ∀ a, a < 0 → ∀ b, b < 0 → a ≠ b → (TJ1 a).2.1 ≠ (TJ1 b).2.1 := by decide +kernel
theorem tyJ1_ok : ∀ k, k < 0 → parseFieldDescriptor (TJ1 k).2.2.1 = some (tyJ1 k) := by decide +kernel
abbrev cJ1_charAt_3b067 : ByteArray := prog_23_method_2_code
def yJ1_charAt_3b067 : MethodName := ⟨RJ1, "charAt", "([BI)C"⟩
abbrev cJ1_canEncode_9a6ad : ByteArray := prog_23_method_4_code
def yJ1_canEncode_9a6ad : MethodName := ⟨RJ1, "canEncode", "(I)Z"⟩
abbrev cJ1_indexOf_4cfef : ByteArray := prog_23_method_22_code
def yJ1_indexOf_4cfef : MethodName := ⟨RJ1, "indexOf", "([BIII)I"⟩
abbrev cJ1_indexOfChar_4cfef : ByteArray := prog_23_method_23_code
def yJ1_indexOfChar_4cfef : MethodName := ⟨RJ1, "indexOfChar", "([BIII)I"⟩
def RJ2 : String := "java/lang/StringUTF16"
def TJ2 : u_T := fun k => match k with
  | _ => ("", "", "", false)
def tyJ2 : Nat → FieldType := fun k => match k with
  | _ => .int
abbrev wsJ20 : List Cond := u_ws RJ2 TJ2 0
theorem nmJ2 : ∀ a, a < 0 → ∀ b, b < 0 → a ≠ b → (TJ2 a).2.1 ≠ (TJ2 b).2.1 := by decide +kernel
theorem tyJ2_ok : ∀ k, k < 0 → parseFieldDescriptor (TJ2 k).2.2.1 = some (tyJ2 k) := by decide +kernel
abbrev cJ2_getChar_3b067 : ByteArray := prog_24_method_5_code
def yJ2_getChar_3b067 : MethodName := ⟨RJ2, "getChar", "([BI)C"⟩
abbrev cJ2_length_9d52b : ByteArray := prog_24_method_6_code
def yJ2_length_9d52b : MethodName := ⟨RJ2, "length", "([B)I"⟩
abbrev cJ2_indexOf_4cfef : ByteArray := prog_24_method_40_code
def yJ2_indexOf_4cfef : MethodName := ⟨RJ2, "indexOf", "([BIII)I"⟩
abbrev cJ2_indexOfChar_4cfef : ByteArray := prog_24_method_47_code
def yJ2_indexOfChar_4cfef : MethodName := ⟨RJ2, "indexOfChar", "([BIII)I"⟩
abbrev cJ2_indexOfCharUnsafe_4cfef : ByteArray := prog_24_method_48_code
def yJ2_indexOfCharUnsafe_4cfef : MethodName := ⟨RJ2, "indexOfCharUnsafe", "([BIII)I"⟩
abbrev cJ2_indexOfSupplementary_4cfef : ByteArray := prog_24_method_49_code
def yJ2_indexOfSupplementary_4cfef : MethodName := ⟨RJ2, "indexOfSupplementary", "([BIII)I"⟩
abbrev cJ2_charAt_3b067 : ByteArray := prog_24_method_83_code
def yJ2_charAt_3b067 : MethodName := ⟨RJ2, "charAt", "([BI)C"⟩
abbrev cJ2_checkIndex_2214a : ByteArray := prog_24_method_91_code
def yJ2_checkIndex_2214a : MethodName := ⟨RJ2, "checkIndex", "(I[B)V"⟩
abbrev cJ2_checkBoundsBeginEnd_d044e : ByteArray := prog_24_method_93_code
def yJ2_checkBoundsBeginEnd_d044e : MethodName := ⟨RJ2, "checkBoundsBeginEnd", "(II[B)V"⟩
def RJ10 : String := "java/lang/System"
def TJ10 : u_T := fun k => match k with
  | _ => ("", "", "", false)
def tyJ10 : Nat → FieldType := fun k => match k with
  | _ => .int
abbrev wsJ100 : List Cond := u_ws RJ10 TJ10 0
theorem nmJ10 : ∀ a, a < 0 → ∀ b, b < 0 → a ≠ b → (TJ10 a).2.1 ≠ (TJ10 b).2.1 := by decide +kernel
theorem tyJ10_ok : ∀ k, k < 0 → parseFieldDescriptor (TJ10 k).2.2.1 = some (tyJ10 k) := by decide +kernel
def RJ7 : String := "java/util/Arrays"
def TJ7 : u_T := fun k => match k with
  | _ => ("", "", "", false)
def tyJ7 : Nat → FieldType := fun k => match k with
  | _ => .int
abbrev wsJ70 : List Cond := u_ws RJ7 TJ7 0
theorem nmJ7 : ∀ a, a < 0 → ∀ b, b < 0 → a ≠ b → (TJ7 a).2.1 ≠ (TJ7 b).2.1 := by decide +kernel
theorem tyJ7_ok : ∀ k, k < 0 → parseFieldDescriptor (TJ7 k).2.2.1 = some (tyJ7 k) := by decide +kernel
abbrev cJ7_fill_53178 : ByteArray := prog_29_method_103_code
def yJ7_fill_53178 : MethodName := ⟨RJ7, "fill", "([II)V"⟩
def RJ3 : String := "jdk/internal/util/Preconditions"
def TJ3 : u_T := fun k => match k with
  | _ => ("", "", "", false)
def tyJ3 : Nat → FieldType := fun k => match k with
  | _ => .int
abbrev wsJ30 : List Cond := u_ws RJ3 TJ3 0
theorem nmJ3 : ∀ a, a < 0 → ∀ b, b < 0 → a ≠ b → (TJ3 a).2.1 ≠ (TJ3 b).2.1 := by decide +kernel
theorem tyJ3_ok : ∀ k, k < 0 → parseFieldDescriptor (TJ3 k).2.2.1 = some (tyJ3 k) := by decide +kernel
abbrev cJ3_checkIndex_8e157 : ByteArray := prog_31_method_11_code
def yJ3_checkIndex_8e157 : MethodName := ⟨RJ3, "checkIndex", "(IILjava/util/function/BiFunction;)I"⟩
abbrev cJ3_checkFromToIndex_8c36e : ByteArray := prog_31_method_12_code
def yJ3_checkFromToIndex_8c36e : MethodName := ⟨RJ3, "checkFromToIndex", "(IIILjava/util/function/BiFunction;)I"⟩
def RL : String := "OneWindowLaw"
abbrev cL_prisoner : ByteArray := method_3_code
def yL_prisoner : MethodName := ⟨RL, "prisoner", "(LOneWindow;II[J)I"⟩
abbrev cL_law : ByteArray := code
def yL_law : MethodName := ⟨RL, "law", "([I)Z"⟩
abbrev vwCl : List vw_C := [(RX0, TX0, 3), (RX1, TX1, 3), (RX2, TX2, 1), (RX3, TX3, 6), (RX4, TX4, 3), (RX5, TX5, 3), (RX6, TX6, 2), (RX7, TX7, 1), (RX8, TX8, 4), (RX9, TX9, 3), (RX10, TX10, 20), (RX11, TX11, 48)]
end
section
abbrev pm_M : Type := MethodName × ByteArray × Nat × Option FieldType
def pm_t0 : List pm_M := [(yX0_init, cX0_init, 1, none), (yX0_forget, cX0_forget, 1, none), (yX0_keep, cX0_keep, 2, none), (yX0_bringBack, cX0_bringBack, 2, none), (yX1_init, cX1_init, 1, none), (yX1_forget, cX1_forget, 1, none), (yX1_search, cX1_search, 2, none), (yX1_tryLengths, cX1_tryLengths, 10, none), (yX2_init, cX2_init, 1, none), (yX2_put, cX2_put, 3, none), (yX2_entry, cX2_entry, 3, (some .int)), (yX2_copy, cX2_copy, 2, none), (yX3_init, cX3_init, 1, none), (yX3_read, cX3_read, 3, none), (yX3_readClause, cX3_readClause, 4, none), (yX3_readItems, cX3_readItems, 10, none)]
def pm_t1 : List pm_M := [(yX3_window, cX3_window, 1, (some .int)), (yX3_loud, cX3_loud, 1, (some .int)), (yX3_worn, cX3_worn, 1, (some .int)), (yX3_cost, cX3_cost, 1, (some .int)), (yX3_thick, cX3_thick, 2, (some .int)), (yX3_merit, cX3_merit, 2, (some .int)), (yX3_honesty, cX3_honesty, 2, (some .int)), (yX3_leavesOut, cX3_leavesOut, 3, (some .int)), (yX3_breadAtFirst, cX3_breadAtFirst, 2, (some .int)), (yX3_knocks, cX3_knocks, 2, (some .int)), (yX3_chance, cX3_chance, 2, (some .int)), (yX4_init, cX4_init, 1, none), (yX4_spread, cX4_spread, 8, none), (yX4_behind, cX4_behind, 6, (some .int)), (yX4_hearers, cX4_hearers, 6, (some .int)), (yX4_tellAll, cX4_tellAll, 11, (some .int))]
def pm_t2 : List pm_M := [(yX4_hear, cX4_hear, 7, none), (yX5_init, cX5_init, 1, none), (yX5_read, cX5_read, 3, none), (yX5_readClause, cX5_readClause, 4, none), (yX5_readCondition, cX5_readCondition, 5, none), (yX5_readTruth, cX5_readTruth, 5, none), (yX5_readUnit, cX5_readUnit, 7, none), (yX5_readSum, cX5_readSum, 5, none), (yX5_readTerm, cX5_readTerm, 5, none), (yX5_readAtom, cX5_readAtom, 5, none), (yX5_enters, cX5_enters, 2, (some .boolean)), (yX5_isComparison, cX5_isComparison, 1, (some .boolean)), (yX5_put, cX5_put, 2, none), (yX5_worth, cX5_worth, 5, (some .int)), (yX5_stacked, cX5_stacked, 3, (some .int)), (yX5_clauseEnd, cX5_clauseEnd, 3, (some .int))]
def pm_t3 : List pm_M := [(yX5_joined, cX5_joined, 7, (some .int)), (yX6_init, cX6_init, 1, none), (yX6_read, cX6_read, 3, none), (yX6_readStep, cX6_readStep, 4, none), (yX6_part, cX6_part, 3, (some .int)), (yX7_init, cX7_init, 1, none), (yX7_open, cX7_open, 3, none), (yX7_copy, cX7_copy, 2, none), (yX7_sees, cX7_sees, 2, (some .boolean)), (yX7_cellOf, cX7_cellOf, 4, (some .int)), (yX7_swapCells, cX7_swapCells, 6, none), (yX7_richest, cX7_richest, 4, (some .int)), (yX7_breadOfAll, cX7_breadOfAll, 4, (some .int)), (yX7_pay, cX7_pay, 4, none), (yX7_wasTold, cX7_wasTold, 5, none), (yX7_endDay, cX7_endDay, 2, none)]
def pm_t4 : List pm_M := [(yX8_init, cX8_init, 1, none), (yX8_bytesIn, cX8_bytesIn, 3, (some .int)), (yX8_add, cX8_add, 4, none), (yX8_begin, cX8_begin, 1, none), (yX8_here, cX8_here, 1, (some .int)), (yX8_next, cX8_next, 1, (some .int)), (yX8_pass, cX8_pass, 1, none), (yX8_takes, cX8_takes, 2, (some .boolean)), (yX8_expect, cX8_expect, 2, none), (yX8_expectEnd, cX8_expectEnd, 1, none), (yX8_fail, cX8_fail, 1, none), (yX8_failAt, cX8_failAt, 2, none), (yX8_letterOf, cX8_letterOf, 3, (some .int)), (yX8_digit, cX8_digit, 2, (some .int)), (yX8_number, cX8_number, 7, (some .int)), (yX8_isDigit, cX8_isDigit, 1, (some .boolean))]
def pm_t5 : List pm_M := [(yX9_init, cX9_init, 1, none), (yX9_forget, cX9_forget, 1, none), (yX9_hear, cX9_hear, 4, none), (yX9_spoke, cX9_spoke, 2, (some .boolean)), (yX9_lies, cX9_lies, 3, (some .boolean)), (yX9_liarsBy, cX9_liarsBy, 4, (some .int)), (yX10_init, cX10_init, 2, none), (yX10_feed, cX10_feed, 7, (some .int)), (yX10_end, cX10_end, 2, (some .boolean)), (yX10_fault, cX10_fault, 2, (some .int)), (yX10_text, cX10_text, 3, (some .int)), (yX10_isSort, cX10_isSort, 1, (some .boolean)), (yX10_faultOfTape, cX10_faultOfTape, 2, (some .int)), (yX10_openFort, cX10_openFort, 2, (some .int)), (yX10_rule, cX10_rule, 2, (some .int)), (yX10_prisoner, cX10_prisoner, 3, (some .int))]
def pm_t6 : List pm_M := [(yX10_cell, cX10_cell, 3, (some .int)), (yX10_event, cX10_event, 3, (some .int)), (yX10_law, cX10_law, 2, (some .boolean)), (yX10_guards, cX10_guards, 2, (some .boolean)), (yX10_log, cX10_log, 3, (some .int)), (yX10_count, cX10_count, 2, (some .int)), (yX10_hasFort, cX10_hasFort, 1, (some .boolean)), (yX10_isPrisoner, cX10_isPrisoner, 2, (some .boolean)), (yX10_isCell, cX10_isCell, 2, (some .boolean)), (yX10_isEvent, cX10_isEvent, 2, (some .boolean)), (yX10_teller, cX10_teller, 1, (some .int)), (yX10_logged, cX10_logged, 1, (some .int)), (yX10_lawNow, cX10_lawNow, 1, (some (.object "OneWindow$Law"))), (yX10_see, cX10_see, 2, (some .int)), (yX10_tell, cX10_tell, 1, (some .int)), (yX10_move, cX10_move, 3, (some .int))]
def pm_t7 : List pm_M := [(yX10_mirror, cX10_mirror, 3, (some .boolean)), (yX10_code, cX10_code, 2, (some .int)), (yX10_days, cX10_days, 3, (some .int)), (yX10_years, cX10_years, 5, (some .int)), (yX10_undo, cX10_undo, 1, (some .int)), (yX10_image, cX10_image, 1, (some .int)), (yX10_back, cX10_back, 1, (some .int)), (yX10_canSpend, cX10_canSpend, 2, (some .boolean)), (yX10_acted, cX10_acted, 4, (some .boolean)), (yX10_canBe, cX10_canBe, 5, (some .boolean)), (yX10_change, cX10_change, 6, none), (yX10_drawDay, cX10_drawDay, 2, none), (yX10_drawOfTen, cX10_drawOfTen, 1, (some .int)), (yX10_worthiestBut, cX10_worthiestBut, 4, (some .int)), (yX10_step, cX10_step, 4, (some .int)), (yX10_run, cX10_run, 4, (some .int))]
def pm_t8 : List pm_M := [(yX10_perform, cX10_perform, 4, (some .int)), (yX10_isPlan, cX10_isPlan, 2, (some .boolean)), (yX10_ranApart, cX10_ranApart, 4, (some .boolean)), (yX10_far, cX10_far, 3, (some .int)), (yX10_wall, cX10_wall, 5, (some .int)), (yX10_listen, cX10_listen, 2, (some .int)), (yX10_escape, cX10_escape, 9, (some .int)), (yX10_trust, cX10_trust, 5, (some .int)), (yX10_wears, cX10_wears, 4, (some .int)), (yX10_hearersFrom, cX10_hearersFrom, 3, (some .int)), (yX10_seat, cX10_seat, 2, (some .int)), (yX10_best, cX10_best, 5, (some .int)), (yX10_swap, cX10_swap, 7, (some .int)), (yX10_price, cX10_price, 6, (some .int)), (yX10_buys, cX10_buys, 5, (some .int)), (yX10_rests, cX10_rests, 8, (some .int))]
def pm_t9 : List pm_M := [(yX10_seatOf, cX10_seatOf, 2, (some .int)), (yX10_gainApart, cX10_gainApart, 4, (some .int)), (yX10_canBuy, cX10_canBuy, 3, (some .boolean)), (yX10_hearApart, cX10_hearApart, 1, none), (yX10_has, cX10_has, 7, (some .int)), (yX10_codes, cX10_codes, 2, (some .int)), (yX10_merits, cX10_merits, 7, (some .int)), (yX10_quiet, cX10_quiet, 3, (some .int)), (yX10_rich, cX10_rich, 1, (some .int)), (yX10_most, cX10_most, 5, (some .int)), (yX10_said, cX10_said, 4, (some .int)), (yX10_least, cX10_least, 1, (some .int)), (yX10_truths, cX10_truths, 5, (some .int)), (yX10_sure, cX10_sure, 7, (some .int)), (yX10_ask, cX10_ask, 6, (some .int)), (yX10_liars, cX10_liars, 5, (some .int))]
def pm_t10 : List pm_M := [(yX10_belief, cX10_belief, 9, (some .int)), (yX10_canDoubt, cX10_canDoubt, 2, (some .boolean)), (yX10_allTruths, cX10_allTruths, 1, (some .int)), (yX10_liarsBy, cX10_liarsBy, 2, (some .int)), (yX10_fewestLiars, cX10_fewestLiars, 3, (some .int)), (yX10_yesLessNo, cX10_yesLessNo, 6, (some .int)), (yX10_likelihood, cX10_likelihood, 6, (some .long)), (yX10_partsOf, cX10_partsOf, 8, (some .int)), (yX11_init, cX11_init, 1, none), (yX11_thrown, cX11_thrown, 1, (some .int)), (yX11_isIn, cX11_isIn, 6, (some .boolean)), (yX11_has, cX11_has, 2, (some .boolean)), (yX11_isAmong, cX11_isAmong, 3, (some .boolean)), (yX11_bytesIn, cX11_bytesIn, 3, (some .int)), (yX11_put, cX11_put, 3, none), (yX11_feed, cX11_feed, 6, (some .int))]
def pm_t11 : List pm_M := [(yX11_end, cX11_end, 2, (some .boolean)), (yX11_look, cX11_look, 1, (some .int)), (yX11_fails, cX11_fails, 1, (some .boolean)), (yX11_goesIn, cX11_goesIn, 1, (some .boolean)), (yX11_takes, cX11_takes, 2, (some .boolean)), (yX11_isDigit, cX11_isDigit, 1, (some .boolean)), (yX11_within, cX11_within, 2, (some .int)), (yX11_atom, cX11_atom, 4, (some .int)), (yX11_term, cX11_term, 5, (some .int)), (yX11_sum, cX11_sum, 5, (some .int)), (yX11_isSign, cX11_isSign, 1, (some .boolean)), (yX11_compares, cX11_compares, 6, (some .boolean)), (yX11_unit, cX11_unit, 3, (some .boolean)), (yX11_part, cX11_part, 5, (some .boolean)), (yX11_condition, cX11_condition, 5, (some .boolean)), (yX11_clause, cX11_clause, 5, none)]
def pm_t12 : List pm_M := [(yX11_starts, cX11_starts, 4, none), (yX11_goThrough, cX11_goThrough, 4, none), (yX11_here, cX11_here, 1, (some .int)), (yX11_spotOf, cX11_spotOf, 3, (some .int)), (yX11_number, cX11_number, 5, (some .int)), (yX11_mostOf, cX11_mostOf, 2, (some .int)), (yX11_leastOf, cX11_leastOf, 2, (some .int)), (yX11_usual, cX11_usual, 2, (some .int)), (yX11_readItems, cX11_readItems, 7, none), (yX11_readClause, cX11_readClause, 3, none), (yX11_readFort, cX11_readFort, 2, none), (yX11_digit, cX11_digit, 2, (some .int)), (yX11_readStep, cX11_readStep, 3, none), (yX11_readPlan, cX11_readPlan, 3, none), (yX11_fault, cX11_fault, 2, (some .int)), (yX11_text, cX11_text, 4, (some .int))]
def pm_t13 : List pm_M := [(yX11_copy, cX11_copy, 4, none), (yX11_isPrisoner, cX11_isPrisoner, 2, (some .boolean)), (yX11_isEvent, cX11_isEvent, 2, (some .boolean)), (yX11_told, cX11_told, 3, (some .int)), (yX11_inCell, cX11_inCell, 4, (some .int)), (yX11_teller, cX11_teller, 2, (some .int)), (yX11_takes_, cX11_takes_, 6, (some .int)), (yX11_knocks, cX11_knocks, 5, none), (yX11_isHeard, cX11_isHeard, 3, (some .boolean)), (yX11_isWorn, cX11_isWorn, 2, (some .boolean)), (yX11_tellsOne, cX11_tellsOne, 7, (some .int)), (yX11_isToldBy, cX11_isToldBy, 3, (some .boolean)), (yX11_tells, cX11_tells, 7, (some .int)), (yX11_darkens, cX11_darkens, 4, none), (yX11_rule, cX11_rule, 2, (some .int)), (yX11_prisoner, cX11_prisoner, 3, (some .int))]
def pm_t14 : List pm_M := [(yX11_cell, cX11_cell, 3, (some .int)), (yX11_event, cX11_event, 3, (some .int)), (yX11_law, cX11_law, 2, (some .boolean)), (yX11_guards, cX11_guards, 2, (some .boolean)), (yX11_remember, cX11_remember, 2, none), (yX11_canSee, cX11_canSee, 3, (some .boolean)), (yX11_see, cX11_see, 2, (some .int)), (yX11_canTell, cX11_canTell, 2, (some .boolean)), (yX11_tell, cX11_tell, 1, (some .int)), (yX11_canMove, cX11_canMove, 3, (some .boolean)), (yX11_changes, cX11_changes, 4, none), (yX11_move, cX11_move, 3, (some .int)), (yX11_mirror, cX11_mirror, 3, (some .boolean)), (yX11_richest, cX11_richest, 4, (some .int)), (yX11_canCode, cX11_canCode, 2, (some .boolean)), (yX11_renews, cX11_renews, 3, (some .int))]
def pm_t15 : List pm_M := [(yX11_code, cX11_code, 1, (some .int)), (yX11_mayPass, cX11_mayPass, 2, (some .boolean)), (yX11_days, cX11_days, 3, (some .int)), (yX11_draw, cX11_draw, 2, (some .int)), (yX11_bestOther, cX11_bestOther, 4, (some .int)), (yX11_years, cX11_years, 7, (some .int)), (yX11_undo, cX11_undo, 2, (some .int)), (yX11_log, cX11_log, 3, (some .int)), (yX11_isPlan, cX11_isPlan, 2, (some .boolean)), (yX11_step, cX11_step, 4, (some .int)), (yX11_canStep, cX11_canStep, 3, (some .boolean)), (yX11_steps, cX11_steps, 5, none), (yX11_run, cX11_run, 4, (some .int)), (yX11_perform, cX11_perform, 3, (some .int)), (yX11_far, cX11_far, 3, (some .int)), (yX11_wall, cX11_wall, 5, (some .int))]
def pm_t16 : List pm_M := [(yX11_seatOf, cX11_seatOf, 7, (some .int)), (yX11_seatBy, cX11_seatBy, 3, (some .int)), (yX11_seat, cX11_seat, 2, (some .int)), (yX11_best, cX11_best, 5, (some .int)), (yX11_goCodes, cX11_goCodes, 6, none), (yX11_codes, cX11_codes, 2, (some .int)), (yX11_said, cX11_said, 4, (some .int)), (yX11_liarsBy, cX11_liarsBy, 4, (some .int)), (yX11_truthMany, cX11_truthMany, 1, (some .int)), (yX11_leastLiars, cX11_leastLiars, 3, (some .int)), (yX11_least, cX11_least, 1, (some .int)), (yX11_mayAsk, cX11_mayAsk, 2, (some .boolean)), (yX11_truths, cX11_truths, 5, (some .int)), (yX11_sure, cX11_sure, 6, (some .int)), (yX11_ask, cX11_ask, 7, (some .int)), (yX11_liars, cX11_liars, 4, (some .int))]
def pm_t17 : List pm_M := [(yX11_weightOf, cX11_weightOf, 7, (some .long)), (yX11_belief, cX11_belief, 10, (some .int)), (yX11_trust, cX11_trust, 4, (some .int)), (yX11_hears, cX11_hears, 6, (some .int)), (yX11_escape, cX11_escape, 9, (some .int)), (yX11_wears, cX11_wears, 5, (some .int)), (yX11_listen, cX11_listen, 2, (some .int)), (yX11_merits, cX11_merits, 4, (some .int)), (yX11_swap, cX11_swap, 7, (some .int)), (yX11_quiet, cX11_quiet, 3, (some .int)), (yX11_rich, cX11_rich, 1, (some .int)), (yX11_most, cX11_most, 3, (some .int)), (yX11_price, cX11_price, 6, (some .int)), (yX11_canBuy, cX11_canBuy, 3, (some .boolean)), (yX11_buysOf, cX11_buysOf, 8, (some .int)), (yX11_buys, cX11_buys, 5, (some .int))]
def pm_t18 : List pm_M := [(yX11_rests, cX11_rests, 8, (some .int)), (yX11_image, cX11_image, 1, (some .int)), (yX11_back, cX11_back, 1, (some .int)), (yX11_count, cX11_count, 4, (some .int)), (yJ11_isValidCodePoint_9a6ad, cJ11_isValidCodePoint_9a6ad, 2, (some .boolean)), (yJ11_highSurrogate_5068e, cJ11_highSurrogate_5068e, 1, (some .char)), (yJ11_lowSurrogate_5068e, cJ11_lowSurrogate_5068e, 1, (some .char)), (yJ6_bitCount_0f7a4, cJ6_bitCount_0f7a4, 1, (some .int)), (yJ9_abs_0f7a4, cJ9_abs_0f7a4, 1, (some .int)), (yJ9_max_7cf53, cJ9_max_7cf53, 2, (some .int)), (yJ9_max_f86c9, cJ9_max_f86c9, 4, (some .long)), (yJ9_min_7cf53, cJ9_min_7cf53, 2, (some .int)), (yJ9_min_f86c9, cJ9_min_f86c9, 4, (some .long)), (yJ0_length_8abf5, cJ0_length_8abf5, 1, (some .int)), (yJ0_charAt_5068e, cJ0_charAt_5068e, 2, (some .char)), (yJ0_indexOf_0f7a4, cJ0_indexOf_0f7a4, 2, (some .int))]
def pm_t19 : List pm_M := [(yJ0_indexOf_7cf53, cJ0_indexOf_7cf53, 3, (some .int)), (yJ0_coder_7d493, cJ0_coder_7d493, 1, (some .byte)), (yJ0_isLatin1_aae02, cJ0_isLatin1_aae02, 1, (some .boolean)), (yJ0_checkIndex_df160, cJ0_checkIndex_df160, 2, none), (yJ0_checkBoundsBeginEnd_23922, cJ0_checkBoundsBeginEnd_23922, 3, none), (yJ1_charAt_3b067, cJ1_charAt_3b067, 2, (some .char)), (yJ1_canEncode_9a6ad, cJ1_canEncode_9a6ad, 1, (some .boolean)), (yJ1_indexOf_4cfef, cJ1_indexOf_4cfef, 4, (some .int)), (yJ1_indexOfChar_4cfef, cJ1_indexOfChar_4cfef, 6, (some .int)), (yJ2_getChar_3b067, cJ2_getChar_3b067, 2, (some .char)), (yJ2_length_9d52b, cJ2_length_9d52b, 1, (some .int)), (yJ2_indexOf_4cfef, cJ2_indexOf_4cfef, 4, (some .int)), (yJ2_indexOfChar_4cfef, cJ2_indexOfChar_4cfef, 4, (some .int)), (yJ2_indexOfCharUnsafe_4cfef, cJ2_indexOfCharUnsafe_4cfef, 5, (some .int)), (yJ2_indexOfSupplementary_4cfef, cJ2_indexOfSupplementary_4cfef, 7, (some .int)), (yJ2_charAt_3b067, cJ2_charAt_3b067, 2, (some .char))]
def pm_t20 : List pm_M := [(yJ2_checkIndex_2214a, cJ2_checkIndex_2214a, 2, none), (yJ2_checkBoundsBeginEnd_d044e, cJ2_checkBoundsBeginEnd_d044e, 3, none), (yJ7_fill_53178, cJ7_fill_53178, 4, none), (yJ3_checkIndex_8e157, cJ3_checkIndex_8e157, 3, (some .int)), (yJ3_checkFromToIndex_8c36e, cJ3_checkFromToIndex_8c36e, 4, (some .int)), (yL_prisoner, cL_prisoner, 5, (some .int)), (yL_law, cL_law, 7, (some .boolean))]
def pm_tt : List (List pm_M) := [pm_t0, pm_t1, pm_t2, pm_t3, pm_t4, pm_t5, pm_t6, pm_t7, pm_t8, pm_t9, pm_t10, pm_t11, pm_t12, pm_t13, pm_t14, pm_t15, pm_t16, pm_t17, pm_t18, pm_t19, pm_t20]
def pm_0 : pm_M := (⟨"", "", ""⟩, ⟨#[]⟩, 0, none)
def mT (k : Nat) : pm_M := (pm_tt.getD (k / 16) []).getD (k % 16) pm_0
abbrev mN (k : Nat) : MethodName := (mT k).1
abbrev mC (k : Nat) : ByteArray := (mT k).2.1
abbrev mL (k : Nat) : Nat := (mT k).2.2.1
abbrev mR (k : Nat) : Option FieldType := (mT k).2.2.2
/-- the words that stay, of all that the tables say -/
def gw : List Cond := lw_tbl.filter goodWord
/-- the words of nest mates -/
def isNw : Cond → Bool
  | .fieldLinkNest _ _ _ _ _ _ => true
  | .methodLinkNest _ _ _ _ => true
  | .declares _ => true
  | .castable _ _ => true
  | _ => false
def nw : List Cond := lw_tbl.filter isNw
abbrev inG (i : Nat) (w : Cond) : Prop := lw_tbl[i]? = some w ∧ goodWord w = true
abbrev inN (i : Nat) (w : Cond) : Prop := lw_tbl[i]? = some w ∧ isNw w = true
theorem inG_mem {i : Nat} {w : Cond} (h : inG i w) : w ∈ gw := List.mem_filter.mpr ⟨List.mem_of_getElem? h.1, h.2⟩
theorem inN_mem {i : Nat} {w : Cond} (h : inN i w) : w ∈ nw := List.mem_filter.mpr ⟨List.mem_of_getElem? h.1, h.2⟩
/-- what is known of a method by the tables: its code, its class is initialized, how many arguments -/
abbrev mB (k ci ni n : Nat) : Prop := inG ci (.code (mN k) (mC k) (mL k) (mR k)) ∧ inG ni (.initialized (mN k).cls) ∧ plainName (mN k).cls = true ∧ (mN k).cls ≠ "java/lang/invoke/MethodHandle" ∧ (mN k).cls ≠ "java/lang/invoke/VarHandle" ∧ (parseMethodDescriptor (mN k).desc).map (fun d => d.parameters.length) = some n
abbrev mI (k ci ni n ii si : Nat) : Prop := mB k ci ni n ∧ inG ii (.instanceMethod (mN k)) ∧ inG si (.selects (mN k).cls (mN k) (mN k))
abbrev mS (k ci ni n ii : Nat) : Prop := mB k ci ni n ∧ inG ii (.static (mN k))
abbrev mU (k ci ni n ii : Nat) : Prop := mB k ci ni n ∧ inG ii (.instanceMethod (mN k)) ∧ (mN k).name = "<init>"
end
section
/-! THE PURE PICTURE. A heap of the class, the reference and the law's own array, by numbers of cells (0, 1, 2 ..: the address less the first one; 1000 and on: constants, which nobody writes). -/
/-- may cells be made; the cells' kinds (below 100: an object of the class of that number in vwCl; 100 int, 101 byte, 102 boolean, 103 long, 104 Law, 105 Plan arrays) and sizes; ints, longs, references by cell and place -/
abbrev ph_H : Type := Bool × List (Nat × Nat) × (Nat → Nat → Int32) × (Nat → Nat → Int64) × (Nat → Nat → Option Nat)
/-- what is fixed in a run: the launch, the tables' numbers, array classes, the first address, constants' addresses, the script -/
abbrev ph_G : Type := Launch × va_G × (Nat → ClassId) × Nat × (Nat → Nat) × Nat × (Nat → Int32)
abbrev gL (G : ph_G) : Launch := G.1
abbrev gD (G : ph_G) : va_G := G.2.1
abbrev gA (G : ph_G) : Nat → ClassId := G.2.2.1
abbrev gB (G : ph_G) : Nat := G.2.2.2.1
abbrev gK (G : ph_G) : Nat → Nat := G.2.2.2.2.1
abbrev gN (G : ph_G) : Nat := G.2.2.2.2.2.1
abbrev gX (G : ph_G) : Nat → Int32 := G.2.2.2.2.2.2
def ph_ad (G : ph_G) (k : Nat) : Nat := if k < 1000 then gB G + k else gK G (k - 1000)
def cv (G : ph_G) : Value → Value
  | .ref k => .ref (ph_ad G k)
  | v => v
theorem cv_cat (G : ph_G) (v : Value) : (cv G v).category = v.category := by cases v <;> rfl
theorem cv_rf (G : ph_G) (r : Option Nat) : cv G (va_rf r) = va_rf (r.map (ph_ad G)) := by cases r <;> rfl
def ph_fty (c : Nat) : Nat → FieldType := match c with
  | 0 => tyX0
  | 1 => tyX1
  | 2 => tyX2
  | 3 => tyX3
  | 4 => tyX4
  | 5 => tyX5
  | 6 => tyX6
  | 7 => tyX7
  | 8 => tyX8
  | 9 => tyX9
  | 10 => tyX10
  | _ => tyX11
abbrev hI (h : ph_H) : Nat → Nat → Int32 := h.2.2.1
abbrev hL (h : ph_H) : Nat → Nat → Int64 := h.2.2.2.1
abbrev hR (h : ph_H) : Nat → Nat → Option Nat := h.2.2.2.2
abbrev hS (h : ph_H) : List (Nat × Nat) := h.2.1
def ph_fv (G : ph_G) (h : ph_H) (a : Nat) (t : FieldType) (s : Nat) : Value := match t with
  | .long => .long (hL h a s)
  | .object _ => va_rf ((hR h a s).map (ph_ad G))
  | .array _ => va_rf ((hR h a s).map (ph_ad G))
  | _ => .int (hI h a s)
def ph_ar (G : ph_G) (h : ph_H) (a kd n : Nat) : vp_A := (n, if kd < 103 then .inl (hI h a) else if kd = 103 then .inr (.inl (hL h a)) else .inr (.inr (.inr (.inr (fun i => (hR h a i).map (ph_ad G))))))
def ph_ce (G : ph_G) (h : ph_H) (a : Nat) : va_E := match (hS h)[a]? with
  | none => .inr (0, [])
  | some q => if q.1 < 100 then .inr (q.1, (List.range q.2).map (fun s => ph_fv G h a (ph_fty q.1 s) s)) else .inl (gA G q.1, ph_ar G h a q.1 q.2)
def ph_ws (G : ph_G) (h : ph_H) : va_W := (List.range (hS h).length).map (fun a => (gB G + a, ph_ce G h a))
theorem ph_at {G : ph_G} {h : ph_H} {a : Nat} {q : Nat × Nat} (ha : (hS h)[a]? = some q) : (ph_ws G h)[a]? = some (gB G + a, ph_ce G h a) := by
  have hl := (List.getElem?_eq_some_iff.mp ha).1
  simp [ph_ws, hl]
theorem ph_ce_o {G : ph_G} {h : ph_H} {a ci n : Nat} (ha : (hS h)[a]? = some (ci, n)) (hc : ci < 100) : ph_ce G h a = .inr (ci, (List.range n).map (fun s => ph_fv G h a (ph_fty ci s) s)) := by
  simp only [ph_ce, ha, if_pos hc]
theorem ph_ce_a {G : ph_G} {h : ph_H} {a kd n : Nat} (ha : (hS h)[a]? = some (kd, n)) (hc : 100 ≤ kd) : ph_ce G h a = .inl (gA G kd, ph_ar G h a kd n) := by
  simp only [ph_ce, ha, if_neg (Nat.not_lt.mpr hc)]
theorem ph_D (G : ph_G) (h : ph_H) : va_D (fun q => gB G ≤ q) (ph_ws G h) := by
  have key : ∀ (k : Nat) (q : Nat × va_E), (ph_ws G h)[k]? = some q → q.1 = gB G + k := by
    intro k q hk
    simp only [ph_ws, List.getElem?_map, Option.map_eq_some_iff] at hk
    obtain ⟨a, h1, h2⟩ := hk
    have := List.getElem?_eq_some_iff.mp h1
    obtain ⟨h3, h4⟩ := this
    simp at h4
    subst h4
    rw [← h2]
  refine ⟨fun i j p q hi hj hpq => ?_, fun k q hk => ?_⟩
  · have h1 := key i p hi
    have h2 := key j q hj
    omega
  · have h1 := key k q hk
    show gB G ≤ q.1
    omega
/-- the heap behind a change of one cell -/
theorem ph_set {G : ph_G} {h h' : ph_H} {a : Nat} (hsh : hS h' = hS h) (ho : ∀ b, b ≠ a → ph_ce G h' b = ph_ce G h b) : (ph_ws G h).set a (gB G + a, ph_ce G h' a) = ph_ws G h' := by
  apply List.ext_getElem?
  intro i
  simp only [ph_ws, hsh, List.getElem?_set, List.getElem?_map, List.length_map, List.length_range]
  by_cases hi : a = i
  · subst hi
    simp only [if_pos]
    by_cases hl : a < (hS h).length
    · simp [hl]
    · simp [hl]
  · simp only [if_neg hi]
    by_cases hl : i < (hS h).length
    · simp [hl, ho i (Ne.symm hi)]
    · simp [hl]
/-- one place of one cell -/
def up2 {α : Type} (f : Nat → Nat → α) (a i : Nat) (x : α) : Nat → Nat → α := fun b => if b = a then va_up (f a) i x else f b
theorem up2_s {α : Type} (f : Nat → Nat → α) (a i : Nat) (x : α) : up2 f a i x a = va_up (f a) i x := if_pos rfl
theorem up2_o {α : Type} (f : Nat → Nat → α) {a b : Nat} (i : Nat) (x : α) (h : b ≠ a) : up2 f a i x b = f b := if_neg h
def stI (h : ph_H) (a i : Nat) (x : Int32) : ph_H := (h.1, h.2.1, up2 h.2.2.1 a i x, h.2.2.2.1, h.2.2.2.2)
def stL (h : ph_H) (a i : Nat) (x : Int64) : ph_H := (h.1, h.2.1, h.2.2.1, up2 h.2.2.2.1 a i x, h.2.2.2.2)
def stR (h : ph_H) (a i : Nat) (x : Option Nat) : ph_H := (h.1, h.2.1, h.2.2.1, h.2.2.2.1, up2 h.2.2.2.2 a i x)
theorem ph_fvI {G : ph_G} {h : ph_H} {a i : Nat} {x : Int32} (b : Nat) (t : FieldType) (s : Nat) (hb : b ≠ a ∨ s ≠ i) : ph_fv G (stI h a i x) b t s = ph_fv G h b t s := by
  cases t <;> simp only [ph_fv, stI, hI, hL, hR] <;>
  · by_cases hba : b = a
    · subst hba
      rcases hb with hb | hb
      · exact absurd rfl hb
      · rw [up2_s]; simp only [va_up, if_neg hb]
    · rw [up2_o _ _ _ hba]
theorem ph_fvL {G : ph_G} {h : ph_H} {a i : Nat} {x : Int64} (b : Nat) (t : FieldType) (s : Nat) (hb : b ≠ a ∨ s ≠ i) : ph_fv G (stL h a i x) b t s = ph_fv G h b t s := by
  cases t <;> simp only [ph_fv, stL, hI, hL, hR] <;>
  · by_cases hba : b = a
    · subst hba
      rcases hb with hb | hb
      · exact absurd rfl hb
      · rw [up2_s]; simp only [va_up, if_neg hb]
    · rw [up2_o _ _ _ hba]
theorem ph_fvR {G : ph_G} {h : ph_H} {a i : Nat} {x : Option Nat} (b : Nat) (t : FieldType) (s : Nat) (hb : b ≠ a ∨ s ≠ i) : ph_fv G (stR h a i x) b t s = ph_fv G h b t s := by
  cases t <;> simp only [ph_fv, stR, hI, hL, hR] <;>
  · by_cases hba : b = a
    · subst hba
      rcases hb with hb | hb
      · exact absurd rfl hb
      · rw [up2_s]; simp only [va_up, if_neg hb]
    · rw [up2_o _ _ _ hba]
theorem ph_ceI {G : ph_G} {h : ph_H} {a i : Nat} {x : Int32} (b : Nat) (hb : b ≠ a) : ph_ce G (stI h a i x) b = ph_ce G h b := by
  have e1 : hS (stI h a i x) = hS h := rfl
  simp only [ph_ce, e1, ph_fvI _ _ _ (Or.inl hb), ph_ar]
  simp only [stI, hI, hL, hR, up2_o _ _ _ hb]
theorem ph_ceL {G : ph_G} {h : ph_H} {a i : Nat} {x : Int64} (b : Nat) (hb : b ≠ a) : ph_ce G (stL h a i x) b = ph_ce G h b := by
  have e1 : hS (stL h a i x) = hS h := rfl
  simp only [ph_ce, e1, ph_fvL _ _ _ (Or.inl hb), ph_ar]
  simp only [stL, hI, hL, hR, up2_o _ _ _ hb]
theorem ph_ceR {G : ph_G} {h : ph_H} {a i : Nat} {x : Option Nat} (b : Nat) (hb : b ≠ a) : ph_ce G (stR h a i x) b = ph_ce G h b := by
  have e1 : hS (stR h a i x) = hS h := rfl
  simp only [ph_ce, e1, ph_fvR _ _ _ (Or.inl hb), ph_ar]
  simp only [stR, hI, hL, hR, up2_o _ _ _ hb]
/-- a field of an object is set -/
theorem ph_fs {G : ph_G} {h h' : ph_H} {a ci n s : Nat} {v : Value} (ho : ∀ s', s' ≠ s → ph_fv G h' a (ph_fty ci s') s' = ph_fv G h a (ph_fty ci s') s') (hv : ph_fv G h' a (ph_fty ci s) s = v) :
    ((List.range n).map (fun s => ph_fv G h a (ph_fty ci s) s)).set s v = (List.range n).map (fun s => ph_fv G h' a (ph_fty ci s) s) := by
  apply List.ext_getElem?
  intro i
  simp only [List.getElem?_set, List.getElem?_map, List.length_map, List.length_range]
  by_cases hi : s = i
  · subst hi
    by_cases hl : s < n
    · simp [hl, hv]
    · simp [hl]
  · simp only [if_neg hi]
    by_cases hl : i < n
    · simp [hl, ho i (Ne.symm hi)]
    · simp [hl]
/-- the world: the cells are there -/
def ph_Wd (G : ph_G) (h : ph_H) (H : Heap) : Prop := va_P (gD G) vwCl (ph_ws G h) H ∧ (hS h).length ≤ 1000 ∧ (h.1 = true → H.size = gB G + (hS h).length)
theorem ph_ad_lt {G : ph_G} {h : ph_H} {H : Heap} {a : Nat} {q : Nat × Nat} (hw : ph_Wd G h H) (ha : (hS h)[a]? = some q) : ph_ad G a = gB G + a := by
  have hl := (List.getElem?_eq_some_iff.mp ha).1
  have h2 := hw.2.1
  exact if_pos (by omega)
abbrev ph_tys (G : ph_G) : List (ClassId × FieldType) := [(gA G 100, .int), (gA G 101, .byte), (gA G 102, .boolean), (gA G 103, .long), (gA G 104, .object RX5), (gA G 105, .object RX6)]
/-- locals: what is known of them -/
def ph_L (G : ph_G) (ls : List (Option Value)) (n : Nat) (Ls : Array Slot) : Prop := Ls.size = n ∧ lv_wf Ls ∧ ∀ (i : Nat) (v : Value), ls[i]? = some (some v) → Ls[i]? = some (Slot.val (cv G v))
def ph_lv (G : ph_G) (ls : List (Option Value)) : List (Nat × Value) := (List.range ls.length).filterMap (fun i => (ls[i]?.join).map (fun v => (i, cv G v)))
theorem ph_lv_mem {G : ph_G} {ls : List (Option Value)} {i : Nat} {v : Value} : (i, v) ∈ ph_lv G ls ↔ ∃ w, ls[i]? = some (some w) ∧ v = cv G w := by
  simp only [ph_lv, List.mem_filterMap, List.mem_range]
  constructor
  · rintro ⟨j, hj, h⟩
    simp only [Option.map_eq_some_iff] at h
    obtain ⟨w, hw, e⟩ := h
    simp only [Prod.mk.injEq] at e
    obtain ⟨rfl, rfl⟩ := e
    refine ⟨w, ?_, rfl⟩
    cases hq : ls[j]? with
    | none => rw [hq] at hw; simp at hw
    | some o => rw [hq] at hw; simp at hw; rw [hw]
  · rintro ⟨w, hw, rfl⟩
    refine ⟨i, (List.getElem?_eq_some_iff.mp hw).1, ?_⟩
    rw [hw]; rfl
theorem ph_L.has {G : ph_G} {ls : List (Option Value)} {n : Nat} {Ls : Array Slot} (h : ph_L G ls n Ls) : lv_has Ls n (ph_lv G ls) := by
  refine ⟨h.1, h.2.1, fun q hq => ?_⟩
  obtain ⟨i, v⟩ := q
  obtain ⟨w, hw, rfl⟩ := ph_lv_mem.mp hq
  exact h.2.2 i w hw
/-- a store of one word, of two words -/
def ph_kill (ls : List (Option Value)) (i : Nat) : List (Option Value) := match i with
  | 0 => ls
  | j + 1 => match ls[j]? with
    | some (some (.long _)) => ls.set j none
    | some (some (.double _)) => ls.set j none
    | _ => ls
def ph_st1 (ls : List (Option Value)) (i : Nat) (v : Value) : List (Option Value) := (ph_kill ls i).set i (some v)
def ph_st2 (ls : List (Option Value)) (i : Nat) (v : Value) : List (Option Value) := ((ph_kill ls i).set (i + 1) none).set i (some v)
theorem ph_kill_get {ls : List (Option Value)} {i j : Nat} {w : Value} (h : (ph_kill ls i)[j]? = some (some w)) : ls[j]? = some (some w) ∧ ¬ (j + 1 = i ∧ w.category = 2) := by
  unfold ph_kill at h
  cases i with
  | zero => exact ⟨h, fun q => by omega⟩
  | succ k =>
    dsimp only at h
    by_cases hjk : j = k
    · subst hjk
      split at h
      · simp [List.getElem?_set] at h
      · simp [List.getElem?_set] at h
      · rename_i h1 h2
        refine ⟨h, fun q => ?_⟩
        cases w with
        | long x => exact h1 x h
        | double x => exact h2 x h
        | _ => simp [Value.category] at q
    · refine ⟨?_, fun q => hjk (by omega)⟩
      split at h
      · rwa [List.getElem?_set_ne (Ne.symm hjk)] at h
      · rwa [List.getElem?_set_ne (Ne.symm hjk)] at h
      · exact h
theorem ph_L.st1 {G : ph_G} {ls : List (Option Value)} {n i : Nat} {v : Value} {Ls' : Array Slot}
    (h' : lv_has Ls' n ((i, cv G v) :: (ph_lv G ls).filter (fun q => !(q.1 == i) && !(q.1 + 1 == i && q.2.category == 2)))) : ph_L G (ph_st1 ls i v) n Ls' := by
  refine ⟨h'.1, h'.2.1, fun j w hj => ?_⟩
  unfold ph_st1 at hj
  by_cases hij : i = j
  · subst hij
    rw [List.getElem?_set] at hj
    split at hj
    · split at hj
      · cases hj
        exact h'.2.2 (i, cv G v) List.mem_cons_self
      · cases hj
    · omega
  · rw [List.getElem?_set_ne hij] at hj
    obtain ⟨h1, h2⟩ := ph_kill_get hj
    refine h'.2.2 (j, cv G w) (List.mem_cons_of_mem _ (List.mem_filter.mpr ⟨ph_lv_mem.mpr ⟨w, h1, rfl⟩, ?_⟩))
    simp only [cv_cat]
    simp only [Bool.and_eq_true, Bool.not_eq_true', beq_eq_false_iff_ne, Bool.and_eq_false_iff]
    refine ⟨Ne.symm hij, ?_⟩
    by_cases hk : j + 1 = i
    · exact Or.inr (fun q => h2 ⟨hk, q⟩)
    · exact Or.inl hk
theorem ph_L.st2 {G : ph_G} {ls : List (Option Value)} {n i : Nat} {v : Value} {Ls' : Array Slot}
    (h' : lv_has Ls' n ((i, cv G v) :: (ph_lv G ls).filter (fun q => !(q.1 == i) && (!(q.1 == i + 1) && !(q.1 + 1 == i && q.2.category == 2))))) : ph_L G (ph_st2 ls i v) n Ls' := by
  refine ⟨h'.1, h'.2.1, fun j w hj => ?_⟩
  unfold ph_st2 at hj
  by_cases hij : i = j
  · subst hij
    rw [List.getElem?_set] at hj
    split at hj
    · split at hj
      · cases hj
        exact h'.2.2 (i, cv G v) List.mem_cons_self
      · cases hj
    · omega
  · rw [List.getElem?_set_ne hij] at hj
    by_cases hij1 : i + 1 = j
    · subst hij1
      rw [List.getElem?_set] at hj
      split at hj
      · split at hj <;> cases hj
      · omega
    · rw [List.getElem?_set_ne hij1] at hj
      obtain ⟨h1, h2⟩ := ph_kill_get hj
      refine h'.2.2 (j, cv G w) (List.mem_cons_of_mem _ (List.mem_filter.mpr ⟨ph_lv_mem.mpr ⟨w, h1, rfl⟩, ?_⟩))
      simp only [cv_cat]
      simp only [Bool.and_eq_true, Bool.not_eq_true', beq_eq_false_iff_ne, Bool.and_eq_false_iff]
      refine ⟨Ne.symm hij, Ne.symm hij1, ?_⟩
      by_cases hk : j + 1 = i
      · exact Or.inr (fun q => h2 ⟨hk, q⟩)
      · exact Or.inl hk
end
section
/-- where a static field lies, its class's statics cell in H (from the claim's names) -/
def vx_L (C n d : String) (A : Nat → Prop) (U : State) (H : Heap) : Prop := ∃ (c : ClassId) (k : Class) (i : Nat) (f : Field) (a : Nat) (cell : Cell), U.vm.findClass C = some c ∧ U.fieldFound? C n d = some (c, k, i, f) ∧ f.isStatic = true ∧ k.statics = some a ∧ H[a]? = some cell ∧ cell.vm.isStatics = true ∧ cell.cls = c ∧ f.slot < cell.slots.size ∧ k.staticTypes[f.slot]? = some f.type ∧ ¬ A a
theorem vx_L.moved {C n d : String} {A : Nat → Prop} {u U : State} {H : Heap} (hvm : u.vm.Alike U.vm) (h : vx_L C n d A u H) : vx_L C n d A U H := by
  obtain ⟨c, k, i, f, a, cell, h1, h2, h3, h4, h5, h6, h7, h8, h9, h10⟩ := h
  obtain ⟨k', hi', he⟩ := State.fieldFound?_setVm hvm h2
  exact ⟨c, k', i, f, a, cell, by rw [hvm.findClass]; exact h1, hi', h3, by rw [he]; exact h4, h5, h6, h7, h8, by rw [he]; exact h9, h10⟩
theorem vx_L.kept {C n d : String} {A : Nat → Prop} {U : State} {H H1 : Heap} (h : vx_L C n d A U H) (hq : ∀ a : Nat, a < H.size → ¬ A a → H1[a]? = H[a]?) : vx_L C n d A U H1 := by
  obtain ⟨c, k, i, f, a, cell, h1, h2, h3, h4, h5, h6, h7, h8, h9, h10⟩ := h
  exact ⟨c, k, i, f, a, cell, h1, h2, h3, h4, by rw [hq a (Array.getElem?_eq_some_iff.mp h5).1 h10]; exact h5, h6, h7, h8, h9, h10⟩
def vx_Zq (C n d : String) (A : Nat → Prop) (U : State) (H : Heap) : Prop := va_Zq C n d A U H ∧ vx_L C n d A U H
theorem vx_Zq.moved {C n d : String} {A : Nat → Prop} {u U : State} {H : Heap} (hvm : u.vm.Alike U.vm) (h : vx_Zq C n d A u H) : vx_Zq C n d A U H := ⟨va_Zq.moved hvm h.1, vx_L.moved hvm h.2⟩
theorem vx_Zq.kept {C n d : String} {A : Nat → Prop} {U : State} {H H1 : Heap} (h : vx_Zq C n d A U H) (hq : ∀ a : Nat, a < H.size → ¬ A a → H1[a]? = H[a]?) : vx_Zq C n d A U H1 := ⟨va_Zq.kept h.1 hq, vx_L.kept h.2 hq⟩
/-! CONSTANTS: the class's static arrays (1000 ..), the script (1009), the literals' strings (1020 ..) and their bytes (1040 ..). -/
def cS : List (String × List Int32) := [("RULE_USUAL", [0, 20, 40, 1]), ("RULE_LEAST", [0, 1, 1, 0]), ("RULE_MOST", [6, 60, 99, 9]), ("CELL_USUAL", [4, 3, 9, 6, 5]), ("CELL_LEAST", [0, 0, 0, 0, 0]), ("CELL_MOST", [30, 9, 10, 6, 99]), ("EVENT_USUAL", [3, 5]), ("EVENT_LEAST", [1, 0]), ("EVENT_MOST", [9, 10])]
def cByt : List (List Int32) := [[119, 108, 103, 98], [116, 109, 104, 120, 98], [110, 112], [116, 110, 109, 107, 100, 103], [115, 109, 116, 99, 101], [121], [110, 111, 32, 115, 117, 99, 104, 32, 112, 114, 105, 115, 111, 110, 101, 114], [110, 111, 32, 115, 117, 99, 104, 32, 116, 104, 105, 110, 103, 32, 111, 102, 32, 97, 32, 112, 114, 105, 115, 111, 110, 101, 114]]
def cLen : List Nat := [4, 5, 2, 6, 5, 1, 16, 27]
def cR : List (String × Nat × String × Nat) := [(RX3, 67, "wlgb", 0), (RX3, 82, "tmhxb", 1), (RX3, 93, "np", 2), (RX5, 79, "tnmkdg", 3), (RX6, 32, "smtce", 4), (RX10, 164, "no such prisoner", 6), (RX10, 185, "no such thing of a prisoner", 7), (RX11, 26, "y", 5), (RX11, 32, "tnmkdg", 3), (RX11, 245, "wlgb", 0), (RX11, 251, "tmhxb", 1), (RX11, 253, "np", 2), (RX11, 258, "smtce", 4)]
abbrev ph_A (G : ph_G) : Nat → Prop := fun q => gB G ≤ q
def ph_C (G : ph_G) (U : State) (H : Heap) : Prop :=
  (∀ (i : Nat) (q : String × List Int32), cS[i]? = some q → va_Z RX10 q.1 "[I" (.ref (gK G i)) (ph_A G) U H ∧ va_T .int (gK G i) q.2.length (fun j => .int (q.2.getD j 0)) (ph_A G) U H) ∧
  va_T .int (gK G 9) (gN G) (fun j => .int (gX G j)) (ph_A G) U H ∧
  vk_S 8 cLen cByt (fun i => gK G (20 + i)) (fun i => gK G (40 + i)) (ph_A G) U H ∧
  va_Z RJ0 "COMPACT_STRINGS" "Z" (.int 1) (ph_A G) U H ∧
  vx_Zq "java/lang/Throwable" "UNASSIGNED_STACK" "[Ljava/lang/StackTraceElement;" (ph_A G) U H ∧ vx_Zq "java/lang/Throwable" "SUPPRESSED_SENTINEL" "Ljava/util/List;" (ph_A G) U H ∧
  (va_Z RJ3 "SIOOBE_FORMATTER" "Ljava/util/function/BiFunction;" .null (ph_A G) U H ∨ va_Z RJ3 "SIOOBE_FORMATTER" "Ljava/util/function/BiFunction;" (.ref (gK G 60)) (ph_A G) U H)
theorem ph_C.moved {G : ph_G} {u U : State} {H : Heap} (hvm : u.vm.Alike U.vm) (h : ph_C G u H) : ph_C G U H :=
  ⟨fun i q hq => ⟨(h.1 i q hq).1.moved hvm, (h.1 i q hq).2.moved hvm⟩, h.2.1.moved hvm, h.2.2.1.moved hvm, h.2.2.2.1.moved hvm, h.2.2.2.2.1.moved hvm, h.2.2.2.2.2.1.moved hvm, h.2.2.2.2.2.2.imp (fun z => z.moved hvm) (fun z => z.moved hvm)⟩
theorem ph_C.kept {G : ph_G} {U : State} {H H1 : Heap} (h : ph_C G U H) (hq : ∀ a : Nat, a < H.size → ¬ ph_A G a → H1[a]? = H[a]?) : ph_C G U H1 :=
  ⟨fun i q hi => ⟨(h.1 i q hi).1.kept hq, (h.1 i q hi).2.kept hq⟩, h.2.1.kept hq, h.2.2.1.kept hq, h.2.2.2.1.kept hq, h.2.2.2.2.1.kept hq, h.2.2.2.2.2.1.kept hq, h.2.2.2.2.2.2.imp (fun z => z.kept hq) (fun z => z.kept hq)⟩
/-- what the tables and the constants say at a method's start -/
def ph_K (G : ph_G) (U : State) : Prop := va_K (gD G) vwCl (ph_tys G) U ∧ (∀ w ∈ nw, va_Nw w U) ∧ (∀ (i : Nat) (q : String × Nat × String × Nat), cR[i]? = some q → vk_R q.1 q.2.1 q.2.2.1 (gK G (20 + q.2.2.2)) U) ∧ ph_C G U U.heap ∧ gB G ≤ U.heap.size ∧ (gL G).stackTraces = false ∧ va_AO RX5 U ∧ va_AO RX6 U
theorem nw_tabs {w : Cond} (h : w ∈ nw) : w.onTables = true := by
  have h2 := (List.mem_filter.mp h).2
  cases w <;> first | rfl | (simp [isNw] at h2)
theorem nw_warm {w : Cond} (h : w ∈ nw) {s U : State} (hW : s.WarmedH U.vm) (hZ : va_Nw w s) : va_Nw w U := by
  have h2 := (List.mem_filter.mp h).2
  cases w <;> first | exact hZ.warmF hW | exact hZ.warmM hW | exact hZ.warmD hW | exact hZ.warmC hW | (simp [isNw] at h2)
theorem ph_K.warm {G : ph_G} {s U : State} (h : ph_K G s) (hW : s.WarmedH U.vm) (hq : ∀ a : Nat, a < s.heap.size → ¬ ph_A G a → U.heap[a]? = s.heap[a]?) (hz : s.heap.size ≤ U.heap.size) : ph_K G U :=
  ⟨va_K.moved hW.alike h.1, fun w hw => nw_warm hw hW (h.2.1 w hw), fun i q hq => (h.2.2.1 i q hq).warm hW, (h.2.2.2.1.moved hW.alike).kept hq, Nat.le_trans h.2.2.2.2.1 hz, h.2.2.2.2.2.1, va_AO.moved hW.alike h.2.2.2.2.2.2.1, va_AO.moved hW.alike h.2.2.2.2.2.2.2⟩
theorem ph_K.call {G : ph_G} {U : State} (h : ph_K G U) (g : JFrame) (mk : MethodId) (a : Array Value) : ph_K G (U.calling g mk a) :=
  ⟨va_K.moved (u := U) (U := U.calling g mk a) (Vm.Alike.refl U.vm) h.1, fun w hw => va_Nw.same (u := U) (U := U.calling g mk a) (nw_tabs hw) rfl (h.2.1 w hw), fun i q hq => vk_R.same (u := U) (U := U.calling g mk a) rfl (h.2.2.1 i q hq), ph_C.moved (u := U) (U := U.calling g mk a) (Vm.Alike.refl U.vm) h.2.2.2.1, h.2.2.2.2.1, h.2.2.2.2.2.1, h.2.2.2.2.2.2.1, h.2.2.2.2.2.2.2⟩
/-- a method's room at a depth, with what it may make -/
def ph_R (d : Nat) (B : Nat × Nat) : Room := { frames := d, cells := B.1, slots := B.2, locals := 60 * d }
def ph_w (k : Nat) : List Cond := .code (mN k) (mC k) (mL k) (mR k) :: gw
/-- the machine in a method's body -/
def ph_Cx (G : ph_G) (B : Nat × Nat) (d k : Nat) (p : Program) (R : Room) (s : State) (m : MethodId) (args : Array Value) (meth : Method) (c : Code) : Prop :=
  p.tables.exec = Jvm.exec ∧ c.code = mC k ∧ c.maxLocals = mL k ∧ s.vm.findClass (mN k).cls = some m.cls ∧ (∀ w ∈ gw, w.before args s = true) ∧ meth.sig.returnType = mR k ∧ meth.locks = false ∧ meth.name = (mN k).name ∧ ph_K G s ∧ (d ≤ R.frames ∧ 60 * d ≤ R.locals ∧ B.1 ≤ R.cells ∧ B.2 ≤ R.slots)
def ph_Q (G : ph_G) (Q : Option Value → ph_H → Prop) : Array Value → State → Outcome → State → Prop := fun _ st o t => (∃ (r : Option Value) (h : ph_H), Q r h ∧ o = .returned (r.map (cv G)) ∧ ph_Wd G h t.heap) ∧ va_F (ph_A G) st t
def ph_P (G : ph_G) (as : List Value) (h : ph_H) : Array Value → State → Prop := fun v U => v = (as.map (cv G)).toArray ∧ ph_Wd G h U.heap ∧ ph_K G U
/-- THE JUDGEMENT: from this frame over this heap the method comes to its end with Q -/
def wq (G : ph_G) (B : Nat × Nat) (d k pc : Nat) (ls : List (Option Value)) (st : List Value) (u : Nat × Nat) (h : ph_H) (Q : Option Value → ph_H → Prop) : Prop :=
  ∀ (p : Program) (e : Env) (R : Room) (s : State) (m : MethodId) (args : Array Value) (below : List Frame) (meth : Method) (c : Code) (H : Heap) (locs : List Loc) (Ls : Array Slot),
    ph_Cx G B d k p R s m args meth c → ph_Wd G h H → va_S (ph_A G) s.heap H locs → ph_L G ls (mL k) Ls →
    W p (gL G) e R s m args below meth c H locs u.1 u.2 (MQ below (ph_Q G Q) args s B.1 B.2 (ph_A G)) (F0 m pc Ls (st.map (cv G)))
/-- a method's contract -/
def Ct (G : ph_G) (B : Nat × Nat) (d k : Nat) (as : List Value) (h : ph_H) (Q : Option Value → ph_H → Prop) : Prop :=
  Met (gL G) (mN k) (ph_w k) (ph_R d B) (ph_P G as h) (ph_Q G Q) B.1 B.2 (ph_A G)
/-- the locals at a method's start -/
def ph_en (n : Nat) (as : List Value) : List (Option Value) := let l := as.flatMap (fun v => if v.category = 2 then [some v, none] else [some v]); l ++ List.replicate (n - l.length) none
theorem ph_en_get (G : ph_G) : ∀ (as : List Value) (b i : Nat) (v : Value), (as.flatMap (fun v => if v.category = 2 then [some v, none] else [some v]))[i]? = some (some v) → (b + i, cv G v) ∈ lv_args b (as.map (cv G)) := by
  intro as
  induction as with
  | nil => intro b i v h; simp at h
  | cons w as ih =>
    intro b i v h
    simp only [List.flatMap_cons] at h
    simp only [List.map_cons, lv_args, cv_cat]
    by_cases hc : w.category = 2
    · simp only [if_pos hc] at h ⊢
      match i with
      | 0 => simp at h; subst h; exact List.mem_cons_self
      | 1 => simp at h
      | i + 2 =>
        simp at h
        have := ih (b + 2) i v (by simpa using h)
        rw [show b + (i + 2) = b + 2 + i by omega]
        exact List.mem_cons_of_mem _ this
    · simp only [if_neg hc] at h ⊢
      match i with
      | 0 => simp at h; subst h; exact List.mem_cons_self
      | i + 1 =>
        simp at h
        have := ih (b + 1) i v (by simpa using h)
        rw [show b + (i + 1) = b + 1 + i by omega]
        exact List.mem_cons_of_mem _ this
theorem ph_en_len (G : ph_G) (as : List Value) : (lg_sl (as.map (cv G))).length = (as.flatMap (fun v => if v.category = 2 then [some v, none] else [some v])).length := by
  induction as with
  | nil => rfl
  | cons w as ih =>
    simp only [lg_sl, List.map_cons, List.flatMap_cons, List.length_append] at ih ⊢
    rw [ih, cv_cat]
    by_cases hc : w.category = 2 <;> simp [hc]
theorem ph_en_L {G : ph_G} {as : List Value} {n : Nat} (hn : (as.flatMap (fun v => if v.category = 2 then [some v, none] else [some v])).length ≤ n) : ph_L G (ph_en n as) n ((lg_sl (as.map (cv G)) ++ List.replicate (n - (lg_sl (as.map (cv G))).length) Slot.unset).toArray) := by
  obtain ⟨h1, h2, h3⟩ := lv_entry (as.map (cv G)) (n := n) (by rw [ph_en_len]; exact hn)
  refine ⟨h1, h2, fun i v hi => ?_⟩
  have h4 : (as.flatMap (fun v => if v.category = 2 then [some v, none] else [some v]))[i]? = some (some v) := by
    unfold ph_en at hi
    rw [List.getElem?_append] at hi
    split at hi
    · exact hi
    · rw [List.getElem?_replicate] at hi
      split at hi <;> cases hi
  have h5 := h3 _ (ph_en_get G as 0 i v h4)
  rwa [Nat.zero_add] at h5
/-- a contract out of a walk -/
theorem Ct_of {G : ph_G} {B : Nat × Nat} {d k : Nat} {as : List Value} {h : ph_H} {Q : Option Value → ph_H → Prop} {ls : List (Option Value)} (hy : plainName (mN k).cls = true) (hn : (as.flatMap (fun v => if v.category = 2 then [some v, none] else [some v])).length ≤ mL k) (he : ph_en (mL k) as = ls)
    (hw : wq G B d k 0 ls [] (0, 0) h Q) : Ct G B d k as h Q := by
  refine Met.ofW (cc := mC k) (maxL := mL k) (ret := mR k) hy rfl ?_
  intro p e s m args below meth c s₁ Bd hml hv
  obtain ⟨rfl, hWd, hK⟩ := hv
  have hts := atoms_spec (ws := ph_w k) Bd.pre
  rw [lg_entry_eq]
  subst he
  exact hw p e (ph_R d B) s m _ below meth c s.heap [] _ ⟨Bd.exec, Bd.bytes, hml, findClass_of_methodNamed Bd.named, fun w hw => hts w (List.mem_cons_of_mem _ hw), Bd.returns, Bd.notSynchronized, (name_of_methodNamed Bd.named Bd.method).1, hK, Nat.le_refl _, Nat.le_refl _, Nat.le_refl _, Nat.le_refl _⟩ hWd va_S.rf (ph_en_L hn)
end
section
theorem ph_ldcwS {p : Program} {l : Launch} {e : Env} {R : Room} {s : State} {m : MethodId} {args : Array Value} {below : List Frame} {meth : Method} {c : Code} {H : Heap} {locs : List Loc} {cells slots : Nat} {Q : State → Prop} {cc : ByteArray} {pc : Nat} {ls : Array Slot} {rest : List Value} (hexec : p.tables.exec = Jvm.exec) (hb : c.code = cc) {own tx : String} {index q : Nat} (hown : s.vm.findClass own = some m.cls) (hZ : vk_R own index tx q s) (hdg : decode cc pc = .ok (.ldc_w index, 3))
    (k : W p l e R s m args below meth c H locs cells slots Q (F0 m (pc + 3) ls (.ref q :: rest))) : W p l e R s m args below meth c H locs cells slots Q (F0 m pc ls rest) := by
  intro T hT X
  obtain ⟨t, a1, b1⟩ := k T hT X
  refine ⟨t, ?_, b1⟩
  obtain ⟨k, cf, i, a', hk, hcf, hcp, -, hr, hev'⟩ := Cond.stringRef_spec hown hZ.1
  cases hZ.2.symm.trans hev'
  obtain ⟨k', hk', he⟩ := X.warmed.alike.2.2 _ _ hk
  have hr' : k'.resolved[index]? = some (some (.string q)) := by
    rcases X.warmed.entry hk hk' index with h | ⟨h, -⟩
    · rw [h]; exact hr
    · rw [hr] at h; cases h
  have hdg' : decode c.code (F0 m pc ls rest).pc = .ok (.ldc_w index, 3) := by rw [hb]; exact hdg
  jvm_step X.here [hexec, hdg', ldc_w.wp_string (e := e) (s := T) (f := F0 m pc ls rest) X.here.top hk' (by rw [he]; exact hcf) hcp hr']
  exact a1
section RULES
variable {G : ph_G} {B : Nat × Nat} {d k pc npc : Nat} {ls ls' : List (Option Value)} {st : List Value} {u : Nat × Nat} {h : ph_H} {Q : Option Value → ph_H → Prop}
abbrev qD (k pc : Nat) (i : Instr) (len npc : Nat) : Prop := decode (mC k) pc = .ok (i, len) ∧ pc + len = npc
abbrev qJ (k pc : Nat) (i : Instr) (npc : Nat) (off : Int) (tgt : Nat) : Prop := decode (mC k) pc = .ok (i, 3) ∧ pc + 3 = npc ∧ (pc : Int) + off = (tgt : Int)
theorem wq_iconst {n : Int} {v : Int32} (q : qD k pc (.iconst n) 1 npc ∧ Int32.ofInt n = v) (kk : wq G B d k npc ls (.int v :: st) u h Q) : wq G B d k pc ls st u h Q := by
  intro p e R s m args below meth c H locs Ls hC hW hS hL
  obtain ⟨⟨q1, rfl⟩, q2⟩ := q
  exact lv_iconst hC.1 hC.2.1 q1 q2 (kk p e R s m args below meth c H locs Ls hC hW hS hL)
theorem wq_bipush {n : Int} {v : Int32} (q : qD k pc (.bipush n) 2 npc ∧ (Int8.ofInt n).toInt32 = v) (kk : wq G B d k npc ls (.int v :: st) u h Q) : wq G B d k pc ls st u h Q := by
  intro p e R s m args below meth c H locs Ls hC hW hS hL
  obtain ⟨⟨q1, rfl⟩, q2⟩ := q
  exact lv_bipush hC.1 hC.2.1 q1 q2 (kk p e R s m args below meth c H locs Ls hC hW hS hL)
theorem wq_sipush {n : Int} {v : Int32} (q : qD k pc (.sipush n) 3 npc ∧ (Int16.ofInt n).toInt32 = v) (kk : wq G B d k npc ls (.int v :: st) u h Q) : wq G B d k pc ls st u h Q := by
  intro p e R s m args below meth c H locs Ls hC hW hS hL
  obtain ⟨⟨q1, rfl⟩, q2⟩ := q
  exact lv_sipush hC.1 hC.2.1 q1 q2 (kk p e R s m args below meth c H locs Ls hC hW hS hL)
theorem wq_lconst {n : Fin 2} {v : Int64} (q : qD k pc (.lconst n) 1 npc ∧ Int64.ofNat (n : Nat) = v) (kk : wq G B d k npc ls (.long v :: st) u h Q) : wq G B d k pc ls st u h Q := by
  intro p e R s m args below meth c H locs Ls hC hW hS hL
  obtain ⟨⟨q1, rfl⟩, q2⟩ := q
  exact lv_lconst hC.1 hC.2.1 q1 q2 (kk p e R s m args below meth c H locs Ls hC hW hS hL)
theorem wq_null  (q : qD k pc .aconst_null 1 npc) (kk : wq G B d k npc ls (.null :: st) u h Q) : wq G B d k pc ls st u h Q := by
  intro p e R s m args below meth c H locs Ls hC hW hS hL
  obtain ⟨q1, rfl⟩ := q
  exact lv_null hC.1 hC.2.1 q1 (kk p e R s m args below meth c H locs Ls hC hW hS hL)
theorem wq_ldc {x wi : Nat} {v : Int32} (q : qD k pc (.ldc x) 2 npc ∧ inG wi (.constant (mN k).cls x v)) (kk : wq G B d k npc ls (.int v :: st) u h Q) : wq G B d k pc ls st u h Q := by
  intro p e R s m args below meth c H locs Ls hC hW hS hL
  obtain ⟨⟨q1, rfl⟩, q2⟩ := q
  exact lv_ldc hC.1 hC.2.1 hC.2.2.2.1 (hC.2.2.2.2.1 _ (inG_mem q2)) q1 (kk p e R s m args below meth c H locs Ls hC hW hS hL)
theorem wq_ldc_w {x wi : Nat} {v : Int32} (q : qD k pc (.ldc_w x) 3 npc ∧ inG wi (.constant (mN k).cls x v)) (kk : wq G B d k npc ls (.int v :: st) u h Q) : wq G B d k pc ls st u h Q := by
  intro p e R s m args below meth c H locs Ls hC hW hS hL
  obtain ⟨⟨q1, rfl⟩, q2⟩ := q
  exact lv_ldcw hC.1 hC.2.1 hC.2.2.2.1 (hC.2.2.2.2.1 _ (inG_mem q2)) q1 (kk p e R s m args below meth c H locs Ls hC hW hS hL)
theorem wq_ldc2_w {x wi : Nat} {v : Int64} (q : qD k pc (.ldc2_w x) 3 npc ∧ inG wi (.constantLong (mN k).cls x v)) (kk : wq G B d k npc ls (.long v :: st) u h Q) : wq G B d k pc ls st u h Q := by
  intro p e R s m args below meth c H locs Ls hC hW hS hL
  obtain ⟨⟨q1, rfl⟩, q2⟩ := q
  exact lv_ldc2 hC.1 hC.2.1 hC.2.2.2.1 (hC.2.2.2.2.1 _ (inG_mem q2)) q1 (kk p e R s m args below meth c H locs Ls hC hW hS hL)
theorem ph_adK (G : ph_G) (i : Nat) : ph_ad G (1000 + i) = gK G i := by
  unfold ph_ad
  rw [if_neg (by omega), Nat.add_sub_cancel_left]
theorem wq_ldcS {x j i : Nat} {tx : String} (q : qD k pc (.ldc x) 2 npc ∧ cR[j]? = some ((mN k).cls, x, tx, i)) (kk : wq G B d k npc ls (.ref (1020 + i) :: st) u h Q) : wq G B d k pc ls st u h Q := by
  intro p e R s m args below meth c H locs Ls hC hW hS hL
  obtain ⟨⟨q1, rfl⟩, q2⟩ := q
  have hZ := hC.2.2.2.2.2.2.2.2.1.2.2.1 j _ q2
  have kk := (kk p e R s m args below meth c H locs Ls hC hW hS hL)
  simp only [List.map_cons, cv] at kk
  rw [show 1020 + i = 1000 + (20 + i) by omega, ph_adK] at kk
  exact va_ldcS hC.1 hC.2.1 hC.2.2.2.1 hZ q1 kk
theorem wq_ldcwS {x j i : Nat} {tx : String} (q : qD k pc (.ldc_w x) 3 npc ∧ cR[j]? = some ((mN k).cls, x, tx, i)) (kk : wq G B d k npc ls (.ref (1020 + i) :: st) u h Q) : wq G B d k pc ls st u h Q := by
  intro p e R s m args below meth c H locs Ls hC hW hS hL
  obtain ⟨⟨q1, rfl⟩, q2⟩ := q
  have hZ := hC.2.2.2.2.2.2.2.2.1.2.2.1 j _ q2
  have kk := (kk p e R s m args below meth c H locs Ls hC hW hS hL)
  simp only [List.map_cons, cv] at kk
  rw [show 1020 + i = 1000 + (20 + i) by omega, ph_adK] at kk
  exact ph_ldcwS hC.1 hC.2.1 hC.2.2.2.1 hZ q1 kk
theorem wq_iadd {x y : Int32} (q : qD k pc .iadd 1 npc) (kk : wq G B d k npc ls (.int (x + y) :: st) u h Q) : wq G B d k pc ls (.int y :: .int x :: st) u h Q := by
  intro p e R s m args below meth c H locs Ls hC hW hS hL
  obtain ⟨q1, rfl⟩ := q
  exact lv_iadd hC.1 hC.2.1 q1 (kk p e R s m args below meth c H locs Ls hC hW hS hL)
theorem wq_isub {x y : Int32} (q : qD k pc .isub 1 npc) (kk : wq G B d k npc ls (.int (x - y) :: st) u h Q) : wq G B d k pc ls (.int y :: .int x :: st) u h Q := by
  intro p e R s m args below meth c H locs Ls hC hW hS hL
  obtain ⟨q1, rfl⟩ := q
  exact lv_isub hC.1 hC.2.1 q1 (kk p e R s m args below meth c H locs Ls hC hW hS hL)
theorem wq_imul {x y : Int32} (q : qD k pc .imul 1 npc) (kk : wq G B d k npc ls (.int (x * y) :: st) u h Q) : wq G B d k pc ls (.int y :: .int x :: st) u h Q := by
  intro p e R s m args below meth c H locs Ls hC hW hS hL
  obtain ⟨q1, rfl⟩ := q
  exact lv_imul hC.1 hC.2.1 q1 (kk p e R s m args below meth c H locs Ls hC hW hS hL)
theorem wq_iand {x y : Int32} (q : qD k pc .iand 1 npc) (kk : wq G B d k npc ls (.int (x &&& y) :: st) u h Q) : wq G B d k pc ls (.int y :: .int x :: st) u h Q := by
  intro p e R s m args below meth c H locs Ls hC hW hS hL
  obtain ⟨q1, rfl⟩ := q
  exact lv_iand hC.1 hC.2.1 q1 (kk p e R s m args below meth c H locs Ls hC hW hS hL)
theorem wq_ior {x y : Int32} (q : qD k pc .ior 1 npc) (kk : wq G B d k npc ls (.int (x ||| y) :: st) u h Q) : wq G B d k pc ls (.int y :: .int x :: st) u h Q := by
  intro p e R s m args below meth c H locs Ls hC hW hS hL
  obtain ⟨q1, rfl⟩ := q
  exact lv_ior hC.1 hC.2.1 q1 (kk p e R s m args below meth c H locs Ls hC hW hS hL)
theorem wq_ixor {x y : Int32} (q : qD k pc .ixor 1 npc) (kk : wq G B d k npc ls (.int (x ^^^ y) :: st) u h Q) : wq G B d k pc ls (.int y :: .int x :: st) u h Q := by
  intro p e R s m args below meth c H locs Ls hC hW hS hL
  obtain ⟨q1, rfl⟩ := q
  exact lv_ixor hC.1 hC.2.1 q1 (kk p e R s m args below meth c H locs Ls hC hW hS hL)
theorem wq_ishl {x y : Int32} (q : qD k pc .ishl 1 npc) (kk : wq G B d k npc ls (.int (x <<< (y &&& 31)) :: st) u h Q) : wq G B d k pc ls (.int y :: .int x :: st) u h Q := by
  intro p e R s m args below meth c H locs Ls hC hW hS hL
  obtain ⟨q1, rfl⟩ := q
  exact lv_ishl hC.1 hC.2.1 q1 (kk p e R s m args below meth c H locs Ls hC hW hS hL)
theorem wq_ishr {x y : Int32} (q : qD k pc .ishr 1 npc) (kk : wq G B d k npc ls (.int (x >>> (y &&& 31)) :: st) u h Q) : wq G B d k pc ls (.int y :: .int x :: st) u h Q := by
  intro p e R s m args below meth c H locs Ls hC hW hS hL
  obtain ⟨q1, rfl⟩ := q
  exact lv_ishr hC.1 hC.2.1 q1 (kk p e R s m args below meth c H locs Ls hC hW hS hL)
theorem wq_iushr {x y : Int32} (q : qD k pc .iushr 1 npc) (kk : wq G B d k npc ls (.int (x.toUInt32 >>> (y.toUInt32 &&& Int32.toUInt32 31)).toInt32 :: st) u h Q) : wq G B d k pc ls (.int y :: .int x :: st) u h Q := by
  intro p e R s m args below meth c H locs Ls hC hW hS hL
  obtain ⟨q1, rfl⟩ := q
  exact lv_iushr hC.1 hC.2.1 q1 rfl (kk p e R s m args below meth c H locs Ls hC hW hS hL)
theorem wq_idiv {x y : Int32} (q : qD k pc .idiv 1 npc) (hne : ¬ y = 0) (kk : wq G B d k npc ls (.int (x / y) :: st) u h Q) : wq G B d k pc ls (.int y :: .int x :: st) u h Q := by
  intro p e R s m args below meth c H locs Ls hC hW hS hL
  obtain ⟨q1, rfl⟩ := q
  exact lv_idiv hC.1 hC.2.1 q1 hne (kk p e R s m args below meth c H locs Ls hC hW hS hL)
theorem wq_irem {x y : Int32} (q : qD k pc .irem 1 npc) (hne : ¬ y = 0) (kk : wq G B d k npc ls (.int (x - x / y * y) :: st) u h Q) : wq G B d k pc ls (.int y :: .int x :: st) u h Q := by
  intro p e R s m args below meth c H locs Ls hC hW hS hL
  obtain ⟨q1, rfl⟩ := q
  exact lv_irem hC.1 hC.2.1 q1 hne (kk p e R s m args below meth c H locs Ls hC hW hS hL)
theorem wq_ineg {x : Int32} (q : qD k pc .ineg 1 npc) (kk : wq G B d k npc ls (.int (0 - x) :: st) u h Q) : wq G B d k pc ls (.int x :: st) u h Q := by
  intro p e R s m args below meth c H locs Ls hC hW hS hL
  obtain ⟨q1, rfl⟩ := q
  exact lv_ineg hC.1 hC.2.1 q1 (kk p e R s m args below meth c H locs Ls hC hW hS hL)
theorem wq_ladd {x y : Int64} (q : qD k pc .ladd 1 npc) (kk : wq G B d k npc ls (.long (x + y) :: st) u h Q) : wq G B d k pc ls (.long y :: .long x :: st) u h Q := by
  intro p e R s m args below meth c H locs Ls hC hW hS hL
  obtain ⟨q1, rfl⟩ := q
  exact lv_ladd hC.1 hC.2.1 q1 (kk p e R s m args below meth c H locs Ls hC hW hS hL)
theorem wq_lsub {x y : Int64} (q : qD k pc .lsub 1 npc) (kk : wq G B d k npc ls (.long (x - y) :: st) u h Q) : wq G B d k pc ls (.long y :: .long x :: st) u h Q := by
  intro p e R s m args below meth c H locs Ls hC hW hS hL
  obtain ⟨q1, rfl⟩ := q
  exact lv_lsub hC.1 hC.2.1 q1 (kk p e R s m args below meth c H locs Ls hC hW hS hL)
theorem wq_lmul {x y : Int64} (q : qD k pc .lmul 1 npc) (kk : wq G B d k npc ls (.long (x * y) :: st) u h Q) : wq G B d k pc ls (.long y :: .long x :: st) u h Q := by
  intro p e R s m args below meth c H locs Ls hC hW hS hL
  obtain ⟨q1, rfl⟩ := q
  exact lv_lmul hC.1 hC.2.1 q1 (kk p e R s m args below meth c H locs Ls hC hW hS hL)
theorem wq_land {x y : Int64} (q : qD k pc .land 1 npc) (kk : wq G B d k npc ls (.long (x &&& y) :: st) u h Q) : wq G B d k pc ls (.long y :: .long x :: st) u h Q := by
  intro p e R s m args below meth c H locs Ls hC hW hS hL
  obtain ⟨q1, rfl⟩ := q
  exact lv_land hC.1 hC.2.1 q1 (kk p e R s m args below meth c H locs Ls hC hW hS hL)
theorem wq_lor {x y : Int64} (q : qD k pc .lor 1 npc) (kk : wq G B d k npc ls (.long (x ||| y) :: st) u h Q) : wq G B d k pc ls (.long y :: .long x :: st) u h Q := by
  intro p e R s m args below meth c H locs Ls hC hW hS hL
  obtain ⟨q1, rfl⟩ := q
  exact lv_lor hC.1 hC.2.1 q1 (kk p e R s m args below meth c H locs Ls hC hW hS hL)
theorem wq_ldiv {x y : Int64} (q : qD k pc .ldiv 1 npc) (hne : ¬ y = 0) (kk : wq G B d k npc ls (.long (x / y) :: st) u h Q) : wq G B d k pc ls (.long y :: .long x :: st) u h Q := by
  intro p e R s m args below meth c H locs Ls hC hW hS hL
  obtain ⟨q1, rfl⟩ := q
  exact lv_ldiv hC.1 hC.2.1 q1 hne (kk p e R s m args below meth c H locs Ls hC hW hS hL)
theorem wq_lrem {x y : Int64} (q : qD k pc .lrem 1 npc) (hne : ¬ y = 0) (kk : wq G B d k npc ls (.long (x - x / y * y) :: st) u h Q) : wq G B d k pc ls (.long y :: .long x :: st) u h Q := by
  intro p e R s m args below meth c H locs Ls hC hW hS hL
  obtain ⟨q1, rfl⟩ := q
  exact lv_lrem hC.1 hC.2.1 q1 hne (kk p e R s m args below meth c H locs Ls hC hW hS hL)
theorem wq_lushr {x : Int64} {y : Int32} (q : qD k pc .lushr 1 npc) (kk : wq G B d k npc ls (.long (x.toUInt64 >>> (y.toInt64.toUInt64 &&& Int64.toUInt64 63)).toInt64 :: st) u h Q) : wq G B d k pc ls (.int y :: .long x :: st) u h Q := by
  intro p e R s m args below meth c H locs Ls hC hW hS hL
  obtain ⟨q1, rfl⟩ := q
  exact lv_lushr hC.1 hC.2.1 q1 rfl (kk p e R s m args below meth c H locs Ls hC hW hS hL)
theorem wq_lshl {x : Int64} {y : Int32} (q : qD k pc .lshl 1 npc) (kk : wq G B d k npc ls (.long (x <<< (y.toInt64 &&& 63)) :: st) u h Q) : wq G B d k pc ls (.int y :: .long x :: st) u h Q := by
  intro p e R s m args below meth c H locs Ls hC hW hS hL
  obtain ⟨q1, rfl⟩ := q
  exact lv_lshl hC.1 hC.2.1 q1 rfl (kk p e R s m args below meth c H locs Ls hC hW hS hL)
theorem wq_lcmp {x y : Int64} (q : qD k pc .lcmp 1 npc) (kk : wq G B d k npc ls (.int (lg_cmp x y) :: st) u h Q) : wq G B d k pc ls (.long y :: .long x :: st) u h Q := by
  intro p e R s m args below meth c H locs Ls hC hW hS hL
  obtain ⟨q1, rfl⟩ := q
  exact W.lcmp hC.1 hC.2.1 q1 (kk p e R s m args below meth c H locs Ls hC hW hS hL)
theorem wq_i2l {x : Int32} (q : qD k pc .i2l 1 npc) (kk : wq G B d k npc ls (.long x.toInt64 :: st) u h Q) : wq G B d k pc ls (.int x :: st) u h Q := by
  intro p e R s m args below meth c H locs Ls hC hW hS hL
  obtain ⟨q1, rfl⟩ := q
  exact lv_i2l hC.1 hC.2.1 q1 rfl (kk p e R s m args below meth c H locs Ls hC hW hS hL)
theorem wq_l2i {x : Int64} (q : qD k pc .l2i 1 npc) (kk : wq G B d k npc ls (.int x.toInt32 :: st) u h Q) : wq G B d k pc ls (.long x :: st) u h Q := by
  intro p e R s m args below meth c H locs Ls hC hW hS hL
  obtain ⟨q1, rfl⟩ := q
  exact lv_l2i hC.1 hC.2.1 q1 rfl (kk p e R s m args below meth c H locs Ls hC hW hS hL)
theorem wq_i2b {x : Int32} (q : qD k pc .i2b 1 npc) (kk : wq G B d k npc ls (.int x.toInt8.toInt32 :: st) u h Q) : wq G B d k pc ls (.int x :: st) u h Q := by
  intro p e R s m args below meth c H locs Ls hC hW hS hL
  obtain ⟨q1, rfl⟩ := q
  exact lv_i2b hC.1 hC.2.1 q1 rfl (kk p e R s m args below meth c H locs Ls hC hW hS hL)
theorem wq_i2c {x : Int32} (q : qD k pc .i2c 1 npc) (kk : wq G B d k npc ls (.int (x.toUInt32 % 65536).toInt32 :: st) u h Q) : wq G B d k pc ls (.int x :: st) u h Q := by
  intro p e R s m args below meth c H locs Ls hC hW hS hL
  obtain ⟨q1, rfl⟩ := q
  exact lv_i2c hC.1 hC.2.1 q1 rfl (kk p e R s m args below meth c H locs Ls hC hW hS hL)
theorem wq_dup {v : Value} (q : qD k pc .dup 1 npc) (hv : v.category = 1) (kk : wq G B d k npc ls (v :: v :: st) u h Q) : wq G B d k pc ls (v :: st) u h Q := by
  intro p e R s m args below meth c H locs Ls hC hW hS hL
  obtain ⟨q1, rfl⟩ := q
  exact lv_dup hC.1 hC.2.1 q1 ((cv_cat G v).trans hv) (kk p e R s m args below meth c H locs Ls hC hW hS hL)
theorem wq_pop {v : Value} (q : qD k pc .pop 1 npc) (hv : v.category = 1) (kk : wq G B d k npc ls st u h Q) : wq G B d k pc ls (v :: st) u h Q := by
  intro p e R s m args below meth c H locs Ls hC hW hS hL
  obtain ⟨q1, rfl⟩ := q
  exact lv_pop hC.1 hC.2.1 q1 ((cv_cat G v).trans hv) (kk p e R s m args below meth c H locs Ls hC hW hS hL)
theorem wq_dup2 {v w : Value} (q : qD k pc .dup2 1 npc) (hv : v.category = 1) (hw : w.category = 1) (kk : wq G B d k npc ls (v :: w :: v :: w :: st) u h Q) : wq G B d k pc ls (v :: w :: st) u h Q := by
  intro p e R s m args below meth c H locs Ls hC hW hS hL
  obtain ⟨q1, rfl⟩ := q
  exact lv_dup2_11 hC.1 hC.2.1 q1 ((cv_cat G v).trans hv) ((cv_cat G w).trans hw) (kk p e R s m args below meth c H locs Ls hC hW hS hL)
theorem wq_dup2l {v : Value} (q : qD k pc .dup2 1 npc) (hv : v.category = 2) (kk : wq G B d k npc ls (v :: v :: st) u h Q) : wq G B d k pc ls (v :: st) u h Q := by
  intro p e R s m args below meth c H locs Ls hC hW hS hL
  obtain ⟨q1, rfl⟩ := q
  exact lv_dup2_2 hC.1 hC.2.1 q1 ((cv_cat G v).trans hv) (kk p e R s m args below meth c H locs Ls hC hW hS hL)
theorem wq_iload_n {j : Fin 4} {i : Nat} {x : Int32} (q : qD k pc (.iload_n j) 1 npc ∧ (j : Nat) = i) (hl : ls[i]? = some (some (.int x))) (kk : wq G B d k npc ls (.int x :: st) u h Q) : wq G B d k pc ls st u h Q := by
  intro p e R s m args below meth c H locs Ls hC hW hS hL
  obtain ⟨⟨q1, rfl⟩, q2⟩ := q
  exact lv_iload_n hC.1 hC.2.1 q1 q2 (hL.2.2 _ _ hl) (kk p e R s m args below meth c H locs Ls hC hW hS hL)
theorem wq_iload {i : Nat} {x : Int32} (q : qD k pc (.iload i) 2 npc) (hl : ls[i]? = some (some (.int x))) (kk : wq G B d k npc ls (.int x :: st) u h Q) : wq G B d k pc ls st u h Q := by
  intro p e R s m args below meth c H locs Ls hC hW hS hL
  obtain ⟨q1, rfl⟩ := q
  exact lv_iload hC.1 hC.2.1 q1 (hL.2.2 _ _ hl) (kk p e R s m args below meth c H locs Ls hC hW hS hL)
theorem wq_lload_n {j : Fin 4} {i : Nat} {x : Int64} (q : qD k pc (.lload_n j) 1 npc ∧ (j : Nat) = i) (hl : ls[i]? = some (some (.long x))) (kk : wq G B d k npc ls (.long x :: st) u h Q) : wq G B d k pc ls st u h Q := by
  intro p e R s m args below meth c H locs Ls hC hW hS hL
  obtain ⟨⟨q1, rfl⟩, q2⟩ := q
  exact lv_lload_n hC.1 hC.2.1 q1 q2 (hL.2.2 _ _ hl) (kk p e R s m args below meth c H locs Ls hC hW hS hL)
theorem wq_lload {i : Nat} {x : Int64} (q : qD k pc (.lload i) 2 npc) (hl : ls[i]? = some (some (.long x))) (kk : wq G B d k npc ls (.long x :: st) u h Q) : wq G B d k pc ls st u h Q := by
  intro p e R s m args below meth c H locs Ls hC hW hS hL
  obtain ⟨q1, rfl⟩ := q
  exact lv_lload hC.1 hC.2.1 q1 (hL.2.2 _ _ hl) (kk p e R s m args below meth c H locs Ls hC hW hS hL)
theorem wq_aload_n {j : Fin 4} {i : Nat} {x : Nat} (q : qD k pc (.aload_n j) 1 npc ∧ (j : Nat) = i) (hl : ls[i]? = some (some (.ref x))) (kk : wq G B d k npc ls (.ref x :: st) u h Q) : wq G B d k pc ls st u h Q := by
  intro p e R s m args below meth c H locs Ls hC hW hS hL
  obtain ⟨⟨q1, rfl⟩, q2⟩ := q
  exact lv_aload_n hC.1 hC.2.1 q1 q2 (hL.2.2 _ _ hl) (kk p e R s m args below meth c H locs Ls hC hW hS hL)
theorem wq_aload {i : Nat} {x : Nat} (q : qD k pc (.aload i) 2 npc) (hl : ls[i]? = some (some (.ref x))) (kk : wq G B d k npc ls (.ref x :: st) u h Q) : wq G B d k pc ls st u h Q := by
  intro p e R s m args below meth c H locs Ls hC hW hS hL
  obtain ⟨q1, rfl⟩ := q
  exact lv_aload hC.1 hC.2.1 q1 (hL.2.2 _ _ hl) (kk p e R s m args below meth c H locs Ls hC hW hS hL)
theorem wq_aload_nN {j : Fin 4} {i : Nat} (q : qD k pc (.aload_n j) 1 npc ∧ (j : Nat) = i) (hl : ls[i]? = some (some .null)) (kk : wq G B d k npc ls (.null :: st) u h Q) : wq G B d k pc ls st u h Q := by
  intro p e R s m args below meth c H locs Ls hC hW hS hL
  obtain ⟨⟨q1, rfl⟩, q2⟩ := q
  exact lv_aload_nN hC.1 hC.2.1 q1 q2 (hL.2.2 _ _ hl) (kk p e R s m args below meth c H locs Ls hC hW hS hL)
theorem wq_aloadN {i : Nat} (q : qD k pc (.aload i) 2 npc) (hl : ls[i]? = some (some .null)) (kk : wq G B d k npc ls (.null :: st) u h Q) : wq G B d k pc ls st u h Q := by
  intro p e R s m args below meth c H locs Ls hC hW hS hL
  obtain ⟨q1, rfl⟩ := q
  exact lv_aloadN hC.1 hC.2.1 q1 (hL.2.2 _ _ hl) (kk p e R s m args below meth c H locs Ls hC hW hS hL)
theorem wq_istore_n {j : Fin 4} {i : Nat} {x : Int32} (q : qD k pc (.istore_n j) 1 npc ∧ (j : Nat) = i ∧ i < mL k) (hl : ph_st1 ls i (.int x) = ls') (kk : wq G B d k npc ls' st u h Q) : wq G B d k pc ls (.int x :: st) u h Q := by
  intro p e R s m args below meth c H locs Ls hC hW hS hL
  obtain ⟨⟨q1, rfl⟩, q2, q3⟩ := q
  exact lv_istore_n hC.1 hC.2.1 q1 q2 hL.has q3 rfl (fun Ls2 h2 => kk p e R s m args below meth c H locs Ls2 hC hW hS (hl ▸ ph_L.st1 h2))
theorem wq_istore {i : Nat} {x : Int32} (q : qD k pc (.istore i) 2 npc ∧ i < mL k) (hl : ph_st1 ls i (.int x) = ls') (kk : wq G B d k npc ls' st u h Q) : wq G B d k pc ls (.int x :: st) u h Q := by
  intro p e R s m args below meth c H locs Ls hC hW hS hL
  obtain ⟨⟨q1, rfl⟩, q3⟩ := q
  exact lv_istore hC.1 hC.2.1 q1 hL.has q3 rfl (fun Ls2 h2 => kk p e R s m args below meth c H locs Ls2 hC hW hS (hl ▸ ph_L.st1 h2))
theorem wq_astore_n {j : Fin 4} {i : Nat} {x : Nat} (q : qD k pc (.astore_n j) 1 npc ∧ (j : Nat) = i ∧ i < mL k) (hl : ph_st1 ls i (.ref x) = ls') (kk : wq G B d k npc ls' st u h Q) : wq G B d k pc ls (.ref x :: st) u h Q := by
  intro p e R s m args below meth c H locs Ls hC hW hS hL
  obtain ⟨⟨q1, rfl⟩, q2, q3⟩ := q
  exact lv_astore_n hC.1 hC.2.1 q1 q2 hL.has q3 rfl (fun Ls2 h2 => kk p e R s m args below meth c H locs Ls2 hC hW hS (hl ▸ ph_L.st1 h2))
theorem wq_astore {i : Nat} {x : Nat} (q : qD k pc (.astore i) 2 npc ∧ i < mL k) (hl : ph_st1 ls i (.ref x) = ls') (kk : wq G B d k npc ls' st u h Q) : wq G B d k pc ls (.ref x :: st) u h Q := by
  intro p e R s m args below meth c H locs Ls hC hW hS hL
  obtain ⟨⟨q1, rfl⟩, q3⟩ := q
  exact lv_astore hC.1 hC.2.1 q1 hL.has q3 rfl (fun Ls2 h2 => kk p e R s m args below meth c H locs Ls2 hC hW hS (hl ▸ ph_L.st1 h2))
theorem wq_lstore_n {j : Fin 4} {i : Nat} {x : Int64} (q : qD k pc (.lstore_n j) 1 npc ∧ (j : Nat) = i ∧ i + 1 < mL k) (hl : ph_st2 ls i (.long x) = ls') (kk : wq G B d k npc ls' st u h Q) : wq G B d k pc ls (.long x :: st) u h Q := by
  intro p e R s m args below meth c H locs Ls hC hW hS hL
  obtain ⟨⟨q1, rfl⟩, q2, q3⟩ := q
  exact lv_lstore_n hC.1 hC.2.1 q1 q2 hL.has q3 rfl (fun Ls2 h2 => kk p e R s m args below meth c H locs Ls2 hC hW hS (hl ▸ ph_L.st2 h2))
theorem wq_lstore {i : Nat} {x : Int64} (q : qD k pc (.lstore i) 2 npc ∧ i + 1 < mL k) (hl : ph_st2 ls i (.long x) = ls') (kk : wq G B d k npc ls' st u h Q) : wq G B d k pc ls (.long x :: st) u h Q := by
  intro p e R s m args below meth c H locs Ls hC hW hS hL
  obtain ⟨⟨q1, rfl⟩, q3⟩ := q
  exact lv_lstore hC.1 hC.2.1 q1 hL.has q3 rfl (fun Ls2 h2 => kk p e R s m args below meth c H locs Ls2 hC hW hS (hl ▸ ph_L.st2 h2))
theorem wq_iinc {i : Nat} {n : Int} {x v : Int32} (q : qD k pc (.iinc i n) 3 npc ∧ i < mL k ∧ Int32.ofInt n = v) (hx : ls[i]? = some (some (.int x))) (hl : ph_st1 ls i (.int (x + v)) = ls') (kk : wq G B d k npc ls' st u h Q) : wq G B d k pc ls st u h Q := by
  intro p e R s m args below meth c H locs Ls hC hW hS hL
  obtain ⟨⟨q1, rfl⟩, q3, q4⟩ := q
  obtain ⟨j, hj⟩ := List.getElem?_of_mem (ph_lv_mem.mpr ⟨_, hx, rfl⟩ : (i, cv G (.int x)) ∈ ph_lv G ls)
  exact lv_iinc (v := x + v) hC.1 hC.2.1 q1 hL.has hj (by rw [q4]) q3 rfl (fun Ls2 h2 => kk p e R s m args below meth c H locs Ls2 hC hW hS (hl ▸ ph_L.st1 h2))
theorem wq_if_eq {off : Int} {tgt : Nat} {x : Int32} (q : qJ k pc (.ifCond .eq off) npc off tgt) (kt : x = 0 → wq G B d k tgt ls st u h Q) (kf : ¬ (x = 0) → wq G B d k npc ls st u h Q) : wq G B d k pc ls (.int x :: st) u h Q := by
  intro p e R s m args below meth c H locs Ls hC hW hS hL
  obtain ⟨q1, rfl, q3⟩ := q
  exact lv_if_eq hC.1 hC.2.1 q1 q3 (fun z => kt z p e R s m args below meth c H locs Ls hC hW hS hL) (fun z => kf z p e R s m args below meth c H locs Ls hC hW hS hL)
theorem wq_if_ne {off : Int} {tgt : Nat} {x : Int32} (q : qJ k pc (.ifCond .ne off) npc off tgt) (kt : ¬ x = 0 → wq G B d k tgt ls st u h Q) (kf : x = 0 → wq G B d k npc ls st u h Q) : wq G B d k pc ls (.int x :: st) u h Q := by
  intro p e R s m args below meth c H locs Ls hC hW hS hL
  obtain ⟨q1, rfl, q3⟩ := q
  exact lv_if_ne hC.1 hC.2.1 q1 q3 (fun z => kt z p e R s m args below meth c H locs Ls hC hW hS hL) (fun z => kf z p e R s m args below meth c H locs Ls hC hW hS hL)
theorem wq_if_lt {off : Int} {tgt : Nat} {x : Int32} (q : qJ k pc (.ifCond .lt off) npc off tgt) (kt : x < 0 → wq G B d k tgt ls st u h Q) (kf : ¬ (x < 0) → wq G B d k npc ls st u h Q) : wq G B d k pc ls (.int x :: st) u h Q := by
  intro p e R s m args below meth c H locs Ls hC hW hS hL
  obtain ⟨q1, rfl, q3⟩ := q
  exact lv_if_lt hC.1 hC.2.1 q1 q3 (fun z => kt z p e R s m args below meth c H locs Ls hC hW hS hL) (fun z => kf z p e R s m args below meth c H locs Ls hC hW hS hL)
theorem wq_if_ge {off : Int} {tgt : Nat} {x : Int32} (q : qJ k pc (.ifCond .ge off) npc off tgt) (kt : 0 ≤ x → wq G B d k tgt ls st u h Q) (kf : ¬ (0 ≤ x) → wq G B d k npc ls st u h Q) : wq G B d k pc ls (.int x :: st) u h Q := by
  intro p e R s m args below meth c H locs Ls hC hW hS hL
  obtain ⟨q1, rfl, q3⟩ := q
  exact lv_if_ge hC.1 hC.2.1 q1 q3 (fun z => kt z p e R s m args below meth c H locs Ls hC hW hS hL) (fun z => kf z p e R s m args below meth c H locs Ls hC hW hS hL)
theorem wq_if_gt {off : Int} {tgt : Nat} {x : Int32} (q : qJ k pc (.ifCond .gt off) npc off tgt) (kt : 0 < x → wq G B d k tgt ls st u h Q) (kf : ¬ (0 < x) → wq G B d k npc ls st u h Q) : wq G B d k pc ls (.int x :: st) u h Q := by
  intro p e R s m args below meth c H locs Ls hC hW hS hL
  obtain ⟨q1, rfl, q3⟩ := q
  exact lv_if_gt hC.1 hC.2.1 q1 q3 (fun z => kt z p e R s m args below meth c H locs Ls hC hW hS hL) (fun z => kf z p e R s m args below meth c H locs Ls hC hW hS hL)
theorem wq_if_le {off : Int} {tgt : Nat} {x : Int32} (q : qJ k pc (.ifCond .le off) npc off tgt) (kt : x ≤ 0 → wq G B d k tgt ls st u h Q) (kf : ¬ (x ≤ 0) → wq G B d k npc ls st u h Q) : wq G B d k pc ls (.int x :: st) u h Q := by
  intro p e R s m args below meth c H locs Ls hC hW hS hL
  obtain ⟨q1, rfl, q3⟩ := q
  exact lv_if_le hC.1 hC.2.1 q1 q3 (fun z => kt z p e R s m args below meth c H locs Ls hC hW hS hL) (fun z => kf z p e R s m args below meth c H locs Ls hC hW hS hL)
theorem wq_icmp_eq {off : Int} {tgt : Nat} {x y : Int32} (q : qJ k pc (.if_icmp .eq off) npc off tgt) (kt : x = y → wq G B d k tgt ls st u h Q) (kf : ¬ (x = y) → wq G B d k npc ls st u h Q) : wq G B d k pc ls (.int y :: .int x :: st) u h Q := by
  intro p e R s m args below meth c H locs Ls hC hW hS hL
  obtain ⟨q1, rfl, q3⟩ := q
  exact lv_icmp_eq hC.1 hC.2.1 q1 q3 (fun z => kt z p e R s m args below meth c H locs Ls hC hW hS hL) (fun z => kf z p e R s m args below meth c H locs Ls hC hW hS hL)
theorem wq_icmp_ne {off : Int} {tgt : Nat} {x y : Int32} (q : qJ k pc (.if_icmp .ne off) npc off tgt) (kt : ¬ x = y → wq G B d k tgt ls st u h Q) (kf : x = y → wq G B d k npc ls st u h Q) : wq G B d k pc ls (.int y :: .int x :: st) u h Q := by
  intro p e R s m args below meth c H locs Ls hC hW hS hL
  obtain ⟨q1, rfl, q3⟩ := q
  exact lv_icmp_ne hC.1 hC.2.1 q1 q3 (fun z => kt z p e R s m args below meth c H locs Ls hC hW hS hL) (fun z => kf z p e R s m args below meth c H locs Ls hC hW hS hL)
theorem wq_icmp_lt {off : Int} {tgt : Nat} {x y : Int32} (q : qJ k pc (.if_icmp .lt off) npc off tgt) (kt : x < y → wq G B d k tgt ls st u h Q) (kf : ¬ (x < y) → wq G B d k npc ls st u h Q) : wq G B d k pc ls (.int y :: .int x :: st) u h Q := by
  intro p e R s m args below meth c H locs Ls hC hW hS hL
  obtain ⟨q1, rfl, q3⟩ := q
  exact lv_icmp_lt hC.1 hC.2.1 q1 q3 (fun z => kt z p e R s m args below meth c H locs Ls hC hW hS hL) (fun z => kf z p e R s m args below meth c H locs Ls hC hW hS hL)
theorem wq_icmp_ge {off : Int} {tgt : Nat} {x y : Int32} (q : qJ k pc (.if_icmp .ge off) npc off tgt) (kt : y ≤ x → wq G B d k tgt ls st u h Q) (kf : ¬ (y ≤ x) → wq G B d k npc ls st u h Q) : wq G B d k pc ls (.int y :: .int x :: st) u h Q := by
  intro p e R s m args below meth c H locs Ls hC hW hS hL
  obtain ⟨q1, rfl, q3⟩ := q
  exact lv_icmp_ge hC.1 hC.2.1 q1 q3 (fun z => kt z p e R s m args below meth c H locs Ls hC hW hS hL) (fun z => kf z p e R s m args below meth c H locs Ls hC hW hS hL)
theorem wq_icmp_gt {off : Int} {tgt : Nat} {x y : Int32} (q : qJ k pc (.if_icmp .gt off) npc off tgt) (kt : y < x → wq G B d k tgt ls st u h Q) (kf : ¬ (y < x) → wq G B d k npc ls st u h Q) : wq G B d k pc ls (.int y :: .int x :: st) u h Q := by
  intro p e R s m args below meth c H locs Ls hC hW hS hL
  obtain ⟨q1, rfl, q3⟩ := q
  exact lv_icmp_gt hC.1 hC.2.1 q1 q3 (fun z => kt z p e R s m args below meth c H locs Ls hC hW hS hL) (fun z => kf z p e R s m args below meth c H locs Ls hC hW hS hL)
theorem wq_icmp_le {off : Int} {tgt : Nat} {x y : Int32} (q : qJ k pc (.if_icmp .le off) npc off tgt) (kt : x ≤ y → wq G B d k tgt ls st u h Q) (kf : ¬ (x ≤ y) → wq G B d k npc ls st u h Q) : wq G B d k pc ls (.int y :: .int x :: st) u h Q := by
  intro p e R s m args below meth c H locs Ls hC hW hS hL
  obtain ⟨q1, rfl, q3⟩ := q
  exact lv_icmp_le hC.1 hC.2.1 q1 q3 (fun z => kt z p e R s m args below meth c H locs Ls hC hW hS hL) (fun z => kf z p e R s m args below meth c H locs Ls hC hW hS hL)
theorem wq_goto {off : Int} {tgt : Nat} (q : qJ k pc (.goto off) npc off tgt) (kk : wq G B d k tgt ls st u h Q) : wq G B d k pc ls st u h Q := by
  intro p e R s m args below meth c H locs Ls hC hW hS hL
  obtain ⟨q1, rfl, q3⟩ := q
  exact lv_goto hC.1 hC.2.1 q1 q3 (kk p e R s m args below meth c H locs Ls hC hW hS hL)
theorem wq_ifnull {off : Int} {tgt a : Nat} (q : qJ k pc (.ifnull off) npc off tgt) (kk : wq G B d k npc ls st u h Q) : wq G B d k pc ls (.ref a :: st) u h Q := by
  intro p e R s m args below meth c H locs Ls hC hW hS hL
  obtain ⟨q1, rfl, q3⟩ := q
  exact lv_ifnull hC.1 hC.2.1 q1 (kk p e R s m args below meth c H locs Ls hC hW hS hL)
theorem wq_ifnullN {off : Int} {tgt : Nat} (q : qJ k pc (.ifnull off) npc off tgt) (kk : wq G B d k tgt ls st u h Q) : wq G B d k pc ls (.null :: st) u h Q := by
  intro p e R s m args below meth c H locs Ls hC hW hS hL
  obtain ⟨q1, rfl, q3⟩ := q
  exact lv_ifnullN hC.1 hC.2.1 q1 q3 (kk p e R s m args below meth c H locs Ls hC hW hS hL)
theorem wq_iret {x : Int32} {ty : FieldType} (q : qD k pc .ireturn 1 npc ∧ mR k = some ty) (hn : narrow ty (.int x) = .int x) (hu : u.1 ≤ B.1 ∧ u.2 ≤ B.2) (hQ : Q (some (.int x)) h) : wq G B d k pc ls [.int x] u h Q := by
  intro p e R s m args below meth c H locs Ls hC hW hS hL
  obtain ⟨q1, q2⟩ := q
  refine W.widen hu.1 hu.2 ?_
  exact W.zret hC.1 hC.2.1 (hC.2.2.2.2.2.1.trans q2) hn (fun t ht _ => ⟨⟨_, _, hQ, rfl, by rw [ht]; exact hW⟩, hS.F ht⟩) (fun z hz => hS.2.2 z hz) q1.1 hC.2.2.2.2.2.2.1
theorem wq_lret {x : Int64} (q : qD k pc .lreturn 1 npc ∧ mR k = some .long) (hu : u.1 ≤ B.1 ∧ u.2 ≤ B.2) (hQ : Q (some (.long x)) h) : wq G B d k pc ls [.long x] u h Q := by
  intro p e R s m args below meth c H locs Ls hC hW hS hL
  obtain ⟨q1, q2⟩ := q
  refine W.widen hu.1 hu.2 ?_
  exact W.lret hC.1 hC.2.1 (hC.2.2.2.2.2.1.trans q2) (fun t ht _ => ⟨⟨_, _, hQ, rfl, by rw [ht]; exact hW⟩, hS.F ht⟩) (fun z hz => hS.2.2 z hz) q1.1 hC.2.2.2.2.2.2.1
theorem wq_vret (q : qD k pc .return_ 1 npc ∧ mR k = none) (hu : u.1 ≤ B.1 ∧ u.2 ≤ B.2) (hQ : Q none h) : wq G B d k pc ls [] u h Q := by
  intro p e R s m args below meth c H locs Ls hC hW hS hL
  obtain ⟨q1, q2⟩ := q
  refine W.widen hu.1 hu.2 ?_
  exact W.vret hC.1 hC.2.1 (hC.2.2.2.2.2.1.trans q2) (fun t ht _ => ⟨⟨_, _, hQ, rfl, by rw [ht]; exact hW⟩, hS.F ht⟩) (fun z hz => hS.2.2 z hz) q1.1 hC.2.2.2.2.2.2.1
theorem wq_aret {v : Value} {C : String} (q : qD k pc .areturn 1 npc ∧ mR k = some (.object C)) (hv : v = .null ∨ ∃ a, v = .ref a) (hu : u.1 ≤ B.1 ∧ u.2 ≤ B.2) (hQ : Q (some v) h) : wq G B d k pc ls [v] u h Q := by
  intro p e R s m args below meth c H locs Ls hC hW hS hL
  obtain ⟨q1, q2⟩ := q
  refine W.widen hu.1 hu.2 ?_
  exact W.aret hC.1 hC.2.1 (hC.2.2.2.2.2.1.trans q2) (Or.inl ⟨_, rfl⟩) (hv.elim (fun z => Or.inl (by rw [z]; rfl)) (fun ⟨a, z⟩ => Or.inr ⟨_, by rw [z]; rfl⟩)) (fun t ht _ => ⟨⟨_, _, hQ, rfl, by rw [ht]; exact hW⟩, hS.F ht⟩) (fun z hz => hS.2.2 z hz) q1.1 hC.2.2.2.2.2.2.1
end RULES
end
section
/-! RULES OF THE HEAP -/
abbrev vT (ci : Nat) : u_T := (vwCl.getD ci (RX0, TX0, 3)).2.1
abbrev vC (ci : Nat) : String := (vwCl.getD ci (RX0, TX0, 3)).1
abbrev vN (ci : Nat) : Nat := (vwCl.getD ci (RX0, TX0, 3)).2.2
theorem vw_at {ci : Nat} (h : ci < 12) : vwCl[ci]? = some (vC ci, vT ci, vN ci) := by
  have : ci < vwCl.length := h
  simp only [vC, vT, vN, List.getD_eq_getElem?_getD, List.getElem?_eq_getElem this, Option.getD_some]
def vwsB (ci : Nat) : Bool := (u_ws (vC ci) (vT ci) (vN ci)).all (fun w => gw.contains w)
set_option maxRecDepth 100000 in
theorem vws_all : (List.range 12).all vwsB = true := by decide +kernel
theorem vws_in {ci : Nat} (h : ci < 12) : ∀ w ∈ u_ws (vC ci) (vT ci) (vN ci), w ∈ gw := by
  have h1 := List.all_eq_true.mp vws_all ci (List.mem_range.mpr h)
  intro w hw
  have h2 := List.all_eq_true.mp h1 w hw
  exact List.contains_iff_mem.mp h2
theorem vty_ok {ci : Nat} (h : ci < 12) : ∀ k, k < vN ci → parseFieldDescriptor (vT ci k).2.2.1 = some (ph_fty ci k) := by
  match ci, h with
  | 0, _ => exact tyX0_ok
  | 1, _ => exact tyX1_ok
  | 2, _ => exact tyX2_ok
  | 3, _ => exact tyX3_ok
  | 4, _ => exact tyX4_ok
  | 5, _ => exact tyX5_ok
  | 6, _ => exact tyX6_ok
  | 7, _ => exact tyX7_ok
  | 8, _ => exact tyX8_ok
  | 9, _ => exact tyX9_ok
  | 10, _ => exact tyX10_ok
  | 11, _ => exact tyX11_ok
theorem vnm_ok {ci : Nat} (h : ci < 12) : ∀ a, a < vN ci → ∀ b, b < vN ci → a ≠ b → (vT ci a).2.1 ≠ (vT ci b).2.1 := by
  match ci, h with
  | 0, _ => exact nmX0
  | 1, _ => exact nmX1
  | 2, _ => exact nmX2
  | 3, _ => exact nmX3
  | 4, _ => exact nmX4
  | 5, _ => exact nmX5
  | 6, _ => exact nmX6
  | 7, _ => exact nmX7
  | 8, _ => exact nmX8
  | 9, _ => exact nmX9
  | 10, _ => exact nmX10
  | 11, _ => exact nmX11
end
section
/-- a field's kind: 0 an int or smaller, 1 a long, 2 a reference -/
def fK : FieldType → Nat
  | .long => 1
  | .object _ => 2
  | .array _ => 2
  | .float => 3
  | .double => 3
  | _ => 0
theorem fv0 {G : ph_G} {h : ph_H} {a s : Nat} {t : FieldType} (ht : fK t = 0) : ph_fv G h a t s = .int (hI h a s) := by cases t <;> first | rfl | (simp [fK] at ht)
theorem fv1 {G : ph_G} {h : ph_H} {a s : Nat} {t : FieldType} (ht : fK t = 1) : ph_fv G h a t s = .long (hL h a s) := by cases t <;> first | rfl | (simp [fK] at ht)
theorem fv2 {G : ph_G} {h : ph_H} {a s : Nat} {t : FieldType} (ht : fK t = 2) : ph_fv G h a t s = cv G (va_rf (hR h a s)) := by cases t <;> first | (rw [cv_rf]; rfl) | (simp [fK] at ht)
section HEAP
variable {G : ph_G} {B : Nat × Nat} {d k pc npc : Nat} {ls ls' : List (Option Value)} {st : List Value} {u : Nat × Nat} {h : ph_H} {Q : Option Value → ph_H → Prop}
abbrev qL (k x ci s wi kd : Nat) : Prop := (ci < 12 ∧ s < vN ci ∧ fK (ph_fty ci s) = kd) ∧ (inG wi (.fieldLink (mN k).cls x (vT ci s).1 (vT ci s).2.1 (vT ci s).2.2.1) ∨ inN wi (.fieldLinkNest (mN k).cls x (vT ci s).1 (vT ci s).2.1 (vT ci s).2.2.1 "OneWindow"))
abbrev qG (k pc x npc ci s wi kd : Nat) : Prop := qD k pc (.getfield x) 3 npc ∧ qL k x ci s wi kd
abbrev qP (k pc x npc ci s wi kd : Nat) : Prop := qD k pc (.putfield x) 3 npc ∧ qL k x ci s wi kd ∧ ((vT ci s).2.2.2 = false ∨ ((mN k).name = "<init>" ∧ (vT ci s).1 = (mN k).cls ∧ inG wi (.fieldLink (mN k).cls x (vT ci s).1 (vT ci s).2.1 (vT ci s).2.2.1)))
theorem wq_getV {x ci s wi kd a n : Nat} {v : Value} (q : qG k pc x npc ci s wi kd) (ha : (hS h)[a]? = some (ci, n)) (hn : n = vN ci) (hv : ph_fv G h a (ph_fty ci s) s = cv G v) (kk : wq G B d k npc ls (v :: st) u h Q) : wq G B d k pc ls (.ref a :: st) u h Q := by
  intro p e R s' m args below meth c H locs Ls hC hW hS' hL
  obtain ⟨⟨q1, rfl⟩, ⟨hci, hs, hk⟩, hl⟩ := q
  have kk := kk p e R s' m args below meth c H locs Ls hC hW hS' hL
  have hra : cv G (.ref a) = .ref (gB G + a) := by show Value.ref _ = _; rw [ph_ad_lt hW ha]
  simp only [List.map_cons, hra] at kk ⊢
  have hat := ph_at (G := G) ha
  rw [ph_ce_o ha (by omega)] at hat
  have hf : ((List.range n).map (fun s => ph_fv G h a (ph_fty ci s) s))[s]? = some (cv G v) := by
    rw [List.getElem?_map, List.getElem?_range (by omega), Option.map_some, hv]
  rcases hl with hl | hl
  · exact va_get hC.1 hC.2.1 hC.2.2.2.2.1 (vws_in hci) hC.2.2.2.1 hC.2.2.2.2.2.2.2.2.1.1 hW.1 a hat (vw_at hci) s hs (hC.2.2.2.2.1 _ (inG_mem hl)) (fun _ z => z) hf q1 kk
  · exact va_getN hC.1 hC.2.1 hC.2.2.2.2.1 (vws_in hci) hC.2.2.2.1 hC.2.2.2.2.2.2.2.2.1.1 hW.1 a hat (vw_at hci) s hs (va_Nw.use rfl (hC.2.2.2.2.2.2.2.2.1.2.1 _ (inN_mem hl))) (fun _ z => z) hf q1 kk
theorem wq_getI {x ci s wi a n : Nat} (q : qG k pc x npc ci s wi 0) (ha : (hS h)[a]? = some (ci, n)) (hn : n = vN ci) (kk : wq G B d k npc ls (.int (hI h a s) :: st) u h Q) : wq G B d k pc ls (.ref a :: st) u h Q :=
  wq_getV q ha hn (fv0 q.2.1.2.2) kk
theorem wq_getL {x ci s wi a n : Nat} (q : qG k pc x npc ci s wi 1) (ha : (hS h)[a]? = some (ci, n)) (hn : n = vN ci) (kk : wq G B d k npc ls (.long (hL h a s) :: st) u h Q) : wq G B d k pc ls (.ref a :: st) u h Q :=
  wq_getV q ha hn (fv1 q.2.1.2.2) kk
theorem wq_getR {x ci s wi a n b : Nat} (q : qG k pc x npc ci s wi 2) (ha : (hS h)[a]? = some (ci, n)) (hn : n = vN ci) (hb : hR h a s = some b) (kk : wq G B d k npc ls (.ref b :: st) u h Q) : wq G B d k pc ls (.ref a :: st) u h Q :=
  wq_getV q ha hn ((fv2 q.2.1.2.2).trans (by rw [hb]; rfl)) kk
/-- a field is written: the kit's rows, with the heap's size (its putfield, for a plain field, a nest mate's, a final one in a constructor) -/
theorem ph_putX {p : Program} {l : Launch} {e : Env} {R : Room} {s : State} {m : MethodId} {args : Array Value} {below : List Frame} {meth : Method} {c : Code} {H : Heap} {locs : List Loc} {cells slots : Nat} {Q : State → Prop} {cc : ByteArray} {pc : Nat} {ls : Array Slot} {rest : List Value} {D : va_G} {cl : List vw_C} {A : Nat → Prop} {a : Nat} {tys : List (ClassId × FieldType)} {ws : va_W} {H0 : Heap}
    (hexec : p.tables.exec = Jvm.exec) (hb : c.code = cc) {own C : String} {T : u_T} {N ci index : Nat} {Ts : List Cond} (hts : ∀ w ∈ Ts, w.before args s = true) (hin : ∀ w ∈ u_ws C T N, w ∈ Ts) (ty0 : Nat → FieldType) (hty : ∀ k, k < N → parseFieldDescriptor (T k).2.2.1 = some (ty0 k)) (hnm : ∀ a, a < N → ∀ b, b < N → a ≠ b → (T a).2.1 ≠ (T b).2.1) (hown : s.vm.findClass own = some m.cls) (hK : va_K D cl tys s) (hP : va_P D cl ws H) (hD : va_D A ws) (hS0 : va_S A H0 H locs) (q0 : Nat) {fs : List Value} (he : ws[q0]? = some (a, .inr (ci, fs))) (hc : cl[ci]? = some (C, T, N)) (k : Nat) (hk : k < N) {host : String}
    (hlink : ((T k).2.2.2 = false ∧ ((Cond.fieldLink own index (T k).1 (T k).2.1 (T k).2.2.1).before args s = true ∨ (Cond.fieldLinkNest own index (T k).1 (T k).2.1 (T k).2.2.1 host).before args s = true)) ∨ ((T k).2.2.2 = true ∧ meth.name = "<init>" ∧ (T k).1 = own ∧ (Cond.fieldLink own index (T k).1 (T k).2.1 (T k).2.2.1).before args s = true))
    {ty : FieldType} {v : Value} (hd : parseFieldDescriptor (T k).2.2.1 = some ty) (hn : narrow ty v = v) (hfit : fits ty v = true) (hl : k < fs.length)
    (hdg : decode cc pc = .ok (.putfield index, 3)) (kk : ∀ (H1 : Heap) (locs1 : List Loc), H1.size = H.size → va_P D cl (ws.set q0 (a, .inr (ci, fs.set k v))) H1 → va_S A H0 H1 locs1 → W p l e R s m args below meth c H1 locs1 cells slots Q (F0 m (pc + 3) ls rest)) : W p l e R s m args below meth c H locs cells slots Q (F0 m pc ls (v :: .ref a :: rest)) := by
  have hap := va_apart (own := own) hts hin ty0 hty hnm hK hc
  obtain ⟨r, h1, cell, q1, q2, q3, q4⟩ := hP q0 _ he
  have hr : r = (C, T, N) := Option.some.inj (h1.symm.trans hc)
  subst hr
  obtain ⟨hS, hfc, kC, hkC, hkind⟩ := hK.1 ci _ hc
  obtain ⟨cf, kf, fi, f, hi, hsl⟩ := hS k hk
  have hlay := hts _ (hin _ (u_in_lay hk))
  unfold u_lay at hlay
  have hst := (u_facts hfc hkC (u_lays hts hin hk) hi).1
  have fin : ∀ H' : Heap, H'[a]? = some (cell.setSlot f.slot v) → H'.size = H.size → (∀ q, q ≠ a → H'[q]? = H[q]?) → W p l e R s m args below meth c H' (locs ++ [⟨a, f.slot⟩]) cells slots Q (F0 m (pc + 3) ls rest) := by
    intro H' e1 e2 e3
    rw [hsl] at e1 ⊢
    exact kk H' _ e2 (hP.set hD he ⟨_, hc, t_OB.to (V := updV (vp_V fs) k v) ⟨_, e1, q2, q3, t_set q4 hap hk v⟩ (fun j _ => vp_updV_set hl v j)⟩ e3) (hS0.put e2 e3 (hD.2 q0 _ he))
  rcases hlink with ⟨hfin, hlink⟩ | ⟨hfin, hin2, hdecl, hlink⟩
  · rw [if_neg (by rw [hfin]; decide)] at hlay
    have h6 := u_store hfc hkC hkind hlay hi hd hn hfit
    rcases hlink with hlink | hlink
    · exact W.putK hexec hb (f := f) ⟨hown, hlink, ⟨_, _, _, hi⟩, hst⟩ (by rw [q2]; exact h6) q1 q3 (by rw [hsl]; exact k2_hasslot (q4 k hk)) rfl rfl hdg fin
    · exact va_WputK hexec hb (f := f) hown hlink hi hst (by rw [q2]; exact h6) q1 q3 (by rw [hsl]; exact k2_hasslot (q4 k hk)) rfl rfl hdg fin
  · rw [if_pos hfin] at hlay
    have hcf : m.cls = cf := by
      obtain ⟨_, _, c', _, _, _, -, -, hf', -, -, -, hown2, -⟩ := Cond.laysFinal_spec hlay
      have e1 : c' = cf := by have := hi.symm.trans hf'; simp at this; exact this.1.symm
      rw [hdecl] at hown2
      rw [← e1]; exact Option.some.inj (hown.symm.trans hown2)
    have h6 := u_fits hfc hkC hkind (Or.inr hlay) hi hd hn hfit
    exact W.putFinK hexec hb hown hlink hi hst hcf hin2 (by rw [q2]; exact h6) q1 q3 (by rw [hsl]; exact k2_hasslot (q4 k hk)) rfl rfl hdg fin
/-- a field is written: the heap behind it -/
theorem wq_putV {x ci s wi kd a n : Nat} {v : Value} {h' : ph_H} (q : qP k pc x npc ci s wi kd) (ha : (hS h)[a]? = some (ci, n)) (hn : n = vN ci)
    (hsh : hS h' = hS h) (hf1 : h'.1 = h.1) (ho : ∀ b, b ≠ a → ph_ce G h' b = ph_ce G h b) (hof : ∀ s', s' ≠ s → ph_fv G h' a (ph_fty ci s') s' = ph_fv G h a (ph_fty ci s') s') (hv : ph_fv G h' a (ph_fty ci s) s = cv G v)
    (hnar : narrow (ph_fty ci s) (cv G v) = cv G v) (hfit : fits (ph_fty ci s) (cv G v) = true)
    (kk : wq G B d k npc ls st u h' Q) : wq G B d k pc ls (v :: .ref a :: st) u h Q := by
  intro p e R s0 m args below meth c H locs Ls hC hW hS' hL
  obtain ⟨⟨q1, rfl⟩, ⟨⟨hci, hs, hk⟩, hl⟩, hfin⟩ := q
  subst hn
  have hat := ph_at (G := G) ha
  rw [ph_ce_o ha (by omega)] at hat
  have ha' : (hS h')[a]? = some (ci, vN ci) := by rw [hsh]; exact ha
  have hset : (ph_ws G h).set a (gB G + a, .inr (ci, ((List.range (vN ci)).map (fun s => ph_fv G h a (ph_fty ci s) s)).set s (cv G v))) = ph_ws G h' := by
    rw [ph_fs hof hv, ← ph_ce_o ha' (by omega)]
    exact ph_set hsh ho
  have hlk : ((vT ci s).2.2.2 = false ∧ ((Cond.fieldLink (mN k).cls x (vT ci s).1 (vT ci s).2.1 (vT ci s).2.2.1).before args s0 = true ∨ (Cond.fieldLinkNest (mN k).cls x (vT ci s).1 (vT ci s).2.1 (vT ci s).2.2.1 "OneWindow").before args s0 = true)) ∨ ((vT ci s).2.2.2 = true ∧ meth.name = "<init>" ∧ (vT ci s).1 = (mN k).cls ∧ (Cond.fieldLink (mN k).cls x (vT ci s).1 (vT ci s).2.1 (vT ci s).2.2.1).before args s0 = true) := by
    by_cases hz : (vT ci s).2.2.2 = false
    · refine Or.inl ⟨hz, ?_⟩
      rcases hl with hl | hl
      · exact Or.inl (hC.2.2.2.2.1 _ (inG_mem hl))
      · exact Or.inr (va_Nw.use rfl (hC.2.2.2.2.2.2.2.2.1.2.1 _ (inN_mem hl)))
    · rcases hfin with hfin | ⟨h1, h2, h3⟩
      · exact absurd hfin hz
      · exact Or.inr ⟨by simpa using hz, hC.2.2.2.2.2.2.2.1.trans h1, h2, hC.2.2.2.2.1 _ (inG_mem h3)⟩
  have hra : cv G (.ref a) = .ref (gB G + a) := by show Value.ref _ = _; rw [ph_ad_lt hW ha]
  simp only [List.map_cons, hra]
  refine ph_putX hC.1 hC.2.1 hC.2.2.2.2.1 (vws_in hci) (ph_fty ci) (vty_ok hci) (vnm_ok hci) hC.2.2.2.1 hC.2.2.2.2.2.2.2.2.1.1 hW.1 (ph_D G h) hS' a hat (vw_at hci) s hs hlk (vty_ok hci s hs) hnar hfit (by simp; exact hs) q1 ?_
  intro H1 locs1 hz hP1 hS1
  rw [hset] at hP1
  exact kk p e R s0 m args below meth c H1 locs1 Ls hC ⟨hP1, by rw [hsh]; exact hW.2.1, fun z => by rw [hz, hsh]; exact hW.2.2 (hf1 ▸ z)⟩ hS1 hL
theorem fits_R {t : FieldType} (ht : fK t = 2) (v : Value) (hv : v = .null ∨ ∃ a, v = .ref a) : narrow t v = v ∧ fits t v = true := by
  cases t <;> first | (simp [fK] at ht; done) | (rcases hv with rfl | ⟨a, rfl⟩ <;> exact ⟨rfl, rfl⟩)
theorem wq_putI {x ci s wi a n : Nat} {y : Int32} (q : qP k pc x npc ci s wi 0) (ha : (hS h)[a]? = some (ci, n)) (hn : n = vN ci) (hnar : narrow (ph_fty ci s) (.int y) = .int y) (hfit : fits (ph_fty ci s) (.int y) = true)
    (kk : wq G B d k npc ls st u (stI h a s y) Q) : wq G B d k pc ls (.int y :: .ref a :: st) u h Q := by
  refine wq_putV (h' := stI h a s y) q ha hn rfl rfl (fun b hb => ph_ceI b hb) (fun s' hs' => ph_fvI a _ s' (Or.inr hs')) ?_ hnar hfit kk
  rw [fv0 q.2.1.1.2.2]
  simp only [stI, hI, up2_s, va_up, if_pos, cv]
theorem wq_putL {x ci s wi a n : Nat} {y : Int64} (q : qP k pc x npc ci s wi 1) (ha : (hS h)[a]? = some (ci, n)) (hn : n = vN ci)
    (kk : wq G B d k npc ls st u (stL h a s y) Q) : wq G B d k pc ls (.long y :: .ref a :: st) u h Q := by
  have ht : ph_fty ci s = .long := by
    have := q.2.1.1.2.2
    revert this
    cases ph_fty ci s <;> simp [fK]
  refine wq_putV (h' := stL h a s y) q ha hn rfl rfl (fun b hb => ph_ceL b hb) (fun s' hs' => ph_fvL a _ s' (Or.inr hs')) ?_ (by rw [ht]; rfl) (by rw [ht]; rfl) kk
  rw [fv1 q.2.1.1.2.2]
  simp only [stL, hL, up2_s, va_up, if_pos, cv]
theorem wq_putR {x ci s wi a n b : Nat} (q : qP k pc x npc ci s wi 2) (ha : (hS h)[a]? = some (ci, n)) (hn : n = vN ci)
    (kk : wq G B d k npc ls st u (stR h a s (some b)) Q) : wq G B d k pc ls (.ref b :: .ref a :: st) u h Q := by
  refine wq_putV (h' := stR h a s (some b)) q ha hn rfl rfl (fun b hb => ph_ceR b hb) (fun s' hs' => ph_fvR a _ s' (Or.inr hs')) ?_ (fits_R q.2.1.1.2.2 _ (Or.inr ⟨_, rfl⟩)).1 (fits_R q.2.1.1.2.2 _ (Or.inr ⟨_, rfl⟩)).2 kk
  rw [fv2 q.2.1.1.2.2]
  simp only [stR, hR, up2_s, va_up, if_pos]
  rfl
end HEAP
end
section
section HEAP
variable {G : ph_G} {B : Nat × Nat} {d k pc npc : Nat} {ls ls' : List (Option Value)} {st : List Value} {u : Nat × Nat} {h : ph_H} {Q : Option Value → ph_H → Prop}
/-! arrays -/
theorem ph_ra {H : Heap} (hW : ph_Wd G h H) {a : Nat} {q : Nat × Nat} (ha : (hS h)[a]? = some q) : cv G (.ref a) = .ref (gB G + a) := by show Value.ref _ = _; rw [ph_ad_lt hW ha]
theorem ph_aI {a kd n : Nat} (ha : (hS h)[a]? = some (kd, n)) (h1 : 100 ≤ kd) (h2 : kd < 103) : (ph_ws G h)[a]? = some (gB G + a, .inl (gA G kd, n, .inl (hI h a))) := by
  rw [ph_at ha, ph_ce_a ha h1]
  simp only [ph_ar, if_pos h2]
theorem ph_aL {a n : Nat} (ha : (hS h)[a]? = some (103, n)) : (ph_ws G h)[a]? = some (gB G + a, .inl (gA G 103, n, .inr (.inl (hL h a)))) := by
  rw [ph_at ha, ph_ce_a ha (by omega)]
  simp only [ph_ar]
  rfl
theorem ph_aR {a kd n : Nat} (ha : (hS h)[a]? = some (kd, n)) (h1 : 104 ≤ kd) : (ph_ws G h)[a]? = some (gB G + a, .inl (gA G kd, n, .inr (.inr (.inr (.inr (fun i => (hR h a i).map (ph_ad G))))))) := by
  rw [ph_at ha, ph_ce_a ha (by omega)]
  simp only [ph_ar, if_neg (show ¬ kd < 103 by omega), if_neg (show ¬ kd = 103 by omega)]
theorem ph_ty (i : Nat) {q : ClassId × FieldType} (hi : (ph_tys G)[i]? = some q) : (ph_tys G)[i]? = some q := hi
theorem wq_iald {a n : Nat} {i : Int32} (q : qD k pc .iaload 1 npc) (ha : (hS h)[a]? = some (100, n)) (hin : vp_in i n) (kk : wq G B d k npc ls (.int (hI h a i.toNatClampNeg) :: st) u h Q) : wq G B d k pc ls (.int i :: .ref a :: st) u h Q := by
  intro p e R s m args below meth c H locs Ls hC hW hS' hL
  obtain ⟨q1, rfl⟩ := q
  have kk := kk p e R s m args below meth c H locs Ls hC hW hS' hL
  simp only [List.map_cons, ph_ra hW ha] at kk ⊢
  exact va_iald hC.1 hC.2.1 hC.2.2.2.2.2.2.2.2.1.1 hW.1 a 0 (ph_aI ha (by omega) (by omega)) rfl hin q1 kk
theorem wq_bald {a n : Nat} {i : Int32} (q : qD k pc .baload 1 npc) (ha : (hS h)[a]? = some (101, n)) (hin : vp_in i n) (kk : wq G B d k npc ls (.int (hI h a i.toNatClampNeg) :: st) u h Q) : wq G B d k pc ls (.int i :: .ref a :: st) u h Q := by
  intro p e R s m args below meth c H locs Ls hC hW hS' hL
  obtain ⟨q1, rfl⟩ := q
  have kk := kk p e R s m args below meth c H locs Ls hC hW hS' hL
  simp only [List.map_cons, ph_ra hW ha] at kk ⊢
  exact va_bald hC.1 hC.2.1 hC.2.2.2.2.2.2.2.2.1.1 hW.1 a 1 (ph_aI ha (by omega) (by omega)) rfl hin q1 kk
theorem wq_zald {a n : Nat} {i : Int32} (q : qD k pc .baload 1 npc) (ha : (hS h)[a]? = some (102, n)) (hin : vp_in i n) (kk : wq G B d k npc ls (.int (hI h a i.toNatClampNeg) :: st) u h Q) : wq G B d k pc ls (.int i :: .ref a :: st) u h Q := by
  intro p e R s m args below meth c H locs Ls hC hW hS' hL
  obtain ⟨q1, rfl⟩ := q
  have kk := kk p e R s m args below meth c H locs Ls hC hW hS' hL
  simp only [List.map_cons, ph_ra hW ha] at kk ⊢
  exact va_zald hC.1 hC.2.1 hC.2.2.2.2.2.2.2.2.1.1 hW.1 a 2 (ph_aI ha (by omega) (by omega)) rfl hin q1 kk
theorem wq_lald {a n : Nat} {i : Int32} (q : qD k pc .laload 1 npc) (ha : (hS h)[a]? = some (103, n)) (hin : vp_in i n) (kk : wq G B d k npc ls (.long (hL h a i.toNatClampNeg) :: st) u h Q) : wq G B d k pc ls (.int i :: .ref a :: st) u h Q := by
  intro p e R s m args below meth c H locs Ls hC hW hS' hL
  obtain ⟨q1, rfl⟩ := q
  have kk := kk p e R s m args below meth c H locs Ls hC hW hS' hL
  simp only [List.map_cons, ph_ra hW ha] at kk ⊢
  exact va_lald hC.1 hC.2.1 hC.2.2.2.2.2.2.2.2.1.1 hW.1 a 3 (ph_aL ha) rfl hin q1 kk
theorem wq_aald {a n kd b : Nat} {i : Int32} (q : qD k pc .aaload 1 npc) (ha : (hS h)[a]? = some (kd, n)) (hk : kd = 104 ∨ kd = 105) (hin : vp_in i n) (hb : hR h a i.toNatClampNeg = some b) (kk : wq G B d k npc ls (.ref b :: st) u h Q) : wq G B d k pc ls (.int i :: .ref a :: st) u h Q := by
  intro p e R s m args below meth c H locs Ls hC hW hS' hL
  obtain ⟨q1, rfl⟩ := q
  have kk := kk p e R s m args below meth c H locs Ls hC hW hS' hL
  simp only [List.map_cons, ph_ra hW ha] at kk ⊢
  rcases hk with rfl | rfl
  · refine va_aldq hC.1 hC.2.1 hC.2.2.2.2.2.2.2.2.1.1 hW.1 a 4 (C := RX5) (ph_aR ha (by omega)) rfl hin q1 ?_
    simp only [hb, Option.map_some]
    exact kk
  · refine va_aldq hC.1 hC.2.1 hC.2.2.2.2.2.2.2.2.1.1 hW.1 a 5 (C := RX6) (ph_aR ha (by omega)) rfl hin q1 ?_
    simp only [hb, Option.map_some]
    exact kk
theorem wq_alen {a n kd : Nat} (q : qD k pc .arraylength 1 npc) (ha : (hS h)[a]? = some (kd, n)) (hk : 100 ≤ kd ∧ kd < 106) (kk : wq G B d k npc ls (.int (Int32.ofNat n) :: st) u h Q) : wq G B d k pc ls (.ref a :: st) u h Q := by
  intro p e R s m args below meth c H locs Ls hC hW hS' hL
  obtain ⟨q1, rfl⟩ := q
  have kk := kk p e R s m args below meth c H locs Ls hC hW hS' hL
  simp only [List.map_cons, ph_ra hW ha] at kk ⊢
  have hat := ph_at (G := G) ha
  rw [ph_ce_a ha hk.1] at hat
  obtain ⟨j, hj⟩ : ∃ j ty, (ph_tys G)[j]? = some (gA G kd, ty) := by
    obtain ⟨h1, h2⟩ := hk
    have : kd = 100 ∨ kd = 101 ∨ kd = 102 ∨ kd = 103 ∨ kd = 104 ∨ kd = 105 := by omega
    rcases this with rfl | rfl | rfl | rfl | rfl | rfl
    · exact ⟨0, _, rfl⟩
    · exact ⟨1, _, rfl⟩
    · exact ⟨2, _, rfl⟩
    · exact ⟨3, _, rfl⟩
    · exact ⟨4, _, rfl⟩
    · exact ⟨5, _, rfl⟩
  obtain ⟨ty, hj⟩ := hj
  exact va_alen hC.1 hC.2.1 hC.2.2.2.2.2.2.2.2.1.1 hW.1 a j hat hj rfl q1 kk
end HEAP
end
section
/-! CALLS -/
theorem ph_good {k ci : Nat} (h : inG ci (.code (mN k) (mC k) (mL k) (mR k))) : GoodIn gw (ph_w k) := by
  have key : ∀ w ∈ gw, w ∈ gw ∧ ((w.onTables && w.keeps) = true ∨ ∃ ty, w = .arrayClass ty) := fun w hw => ⟨hw, good_of_word (List.mem_filter.mp hw).2⟩
  intro w hw
  rcases List.mem_cons.mp hw with rfl | hw
  · exact key _ (inG_mem h)
  · exact key w hw
theorem ph_blind {G : ph_G} {as : List Value} {h : ph_H} : FrameBlind (ph_P G as h) := fun a U g mk ⟨h1, h2, h3⟩ => ⟨h1, h2, h3.call g mk a⟩
theorem ph_cats (G : ph_G) (l : List Value) : ((l.map (cv G)).map fun v => v.category).sum = (l.map fun v => v.category).sum := by
  rw [List.map_map]
  congr 1
  apply List.map_congr_left
  intro v _
  exact cv_cat G v
section CALLS
variable {G : ph_G} {B B' : Nat × Nat} {d k pc npc : Nat} {ls ls' : List (Option Value)} {st : List Value} {u : Nat × Nat} {h : ph_H} {Q : Option Value → ph_H → Prop}
/-- behind a call -/
theorem ph_back {p : Program} {e : Env} {R : Room} {s : State} {m : MethodId} {args : Array Value} {below : List Frame} {meth : Method} {c : Code} {H : Heap} {locs : List Loc} {Ls : Array Slot} {rest st0 : List Value} {Qw : State → Prop} {a : Array Value} {Q1 : Option Value → ph_H → Prop} {cells slots mc ms : Nat}
    (hr : va_Run p (gL G) e R s m args below meth c H locs cells slots mc ms (F0 m pc Ls st0) rest (ph_Q G Q1 a) (ph_A G)) (hS : va_S (ph_A G) s.heap H locs)
    (kk : ∀ (r : Option Value) (h1 : ph_H) (H1 : Heap) (locs1 : List Loc), Q1 r h1 → ph_Wd G h1 H1 → va_S (ph_A G) s.heap H1 locs1 → W p (gL G) e R s m args below meth c H1 locs1 (cells + mc) (slots + ms) Qw (F0 m (pc + 3) Ls ((r.map (cv G)).toList ++ rest))) :
    W p (gL G) e R s m args below meth c H locs cells slots Qw (F0 m pc Ls st0) := by
  intro T hT X
  obtain ⟨v, st₀, t, T', L, h0, X', hL, e1, e2, ⟨⟨r, h1, hq, hv, hw⟩, hz, hk⟩, stp⟩ := hr T hT X
  cases hv
  rw [h0] at hz hk
  obtain ⟨t2, a1, b1⟩ := kk r h1 T'.heap (locs ++ L) hq (by rw [e1]; exact hw) ⟨Nat.le_trans hS.1 (by rw [e1]; exact hz), fun q h1 h2 => by rw [e1, hk q (Nat.lt_of_lt_of_le h1 hS.1) h2]; exact hS.2.1 q h1 h2, fun q hq => by
      rcases List.mem_append.mp hq with h | h
      · exact hS.2.2 q h
      · exact hL q h⟩ T' rfl X'
  exact ⟨t2, stp t2 a1, b1⟩
/-- the callee's start in the caller's heap -/
theorem ph_pre {p : Program} {R : Room} {s : State} {m : MethodId} {args : Array Value} {meth : Method} {c : Code} {H : Heap} {locs : List Loc} (hC : ph_Cx G B d k p R s m args meth c) (hW : ph_Wd G h H) (hS : va_S (ph_A G) s.heap H locs) (as : List Value) : ∀ U : State, U.heap = H → s.WarmedH U.vm → ph_P G as h (as.map (cv G)).toArray U := by
  intro U hU hWm
  refine ⟨rfl, by rw [hU]; exact hW, hC.2.2.2.2.2.2.2.2.1.warm hWm (fun a h1 h2 => ?_) ?_⟩
  · rw [hU]; exact hS.2.1 a h1 h2
  · rw [hU]; exact hS.1
theorem ph_cb {p : Program} {R : Room} {s : State} {m : MethodId} {args : Array Value} {meth : Method} {c : Code} {k' ci ni n x : Nat} (hC : ph_Cx G B (d + 1) k p R s m args meth c) (hm : mB k' ci ni n) (hl : (Cond.methodLink (mN k).cls x (mN k')).before args s = true) (hlim : mL k' ≤ 41) :
    CallB R s args (mN k).cls x (mN k') (mC k') (mL k') (mR k') (ph_w k') (ph_R d B') B'.1 B'.2 n := by
  obtain ⟨-, -, -, -, hts, -, -, -, -, hf, hlo, -⟩ := hC
  exact callB_of n hts (ph_good hm.1) rfl rfl rfl (hts _ (inG_mem hm.2.1)) hl ⟨hm.2.2.2.1, hm.2.2.2.2.1, hm.2.2.2.2.2⟩ ⟨hf, by show 8 + (mL k' + 11) + 60 * d ≤ R.locals; omega⟩
theorem ph_cn {p : Program} {R : Room} {s : State} {m : MethodId} {args : Array Value} {meth : Method} {c : Code} {k' ci ni n x : Nat} (hC : ph_Cx G B (d + 1) k p R s m args meth c) (hm : mB k' ci ni n) (hl : va_Nw (.methodLinkNest (mN k).cls x (mN k') "OneWindow") s) (hlim : mL k' ≤ 41) :
    va_CN R s args (mN k).cls x (mN k') "OneWindow" (mC k') (mL k') (mR k') (ph_w k') (ph_R d B') B'.1 B'.2 n := by
  obtain ⟨-, -, -, -, hts, -, -, -, -, hf, hlo, -⟩ := hC
  exact va_cnB n hts (ph_good hm.1) rfl rfl rfl hl (hts _ (inG_mem hm.2.1)) ⟨hm.2.2.2.1, hm.2.2.2.2.1, hm.2.2.2.2.2⟩ ⟨hf, by show 8 + (mL k' + 11) + 60 * d ≤ R.locals; omega⟩
abbrev qI (k x k' wi : Nat) : Prop := (inG wi (.methodLink (mN k).cls x (mN k')) ∨ inN wi (.methodLinkNest (mN k).cls x (mN k') "OneWindow")) ∧ mL k' ≤ 41
abbrev ph_fit (B B' u : Nat × Nat) (rest : List Value) : Prop := u.1 + B'.1 ≤ B.1 ∧ u.2 + B'.2 ≤ B.2 ∧ (rest.map fun v => v.category).sum ≤ 8
theorem wq_callV {x wi k' ci ni n ii si b cb nb : Nat} {As rest : List Value} (q : qD k pc (.invokevirtual x) 3 npc ∧ qI k x k' wi) (hm : mI k' ci ni n ii si) (hst : As.reverse ++ .ref b :: rest = st) (hn : As.length = n) (hb : (hS h)[b]? = some (cb, nb)) (hcb : cb < 12 ∧ vC cb = (mN k').cls) (hf : ph_fit B B' u rest)
    (kk : Ct G B' d k' (.ref b :: As) h (fun r h' => wq G B (d + 1) k npc ls (r.toList ++ rest) (u.1 + B'.1, u.2 + B'.2) h' Q)) : wq G B (d + 1) k pc ls st u h Q := by
  intro p e R s m args below meth c H locs Ls hC hW hS' hL
  obtain ⟨⟨q1, rfl⟩, hl, hlim⟩ := q
  subst hst
  have hat := ph_at (G := G) hb
  rw [ph_ce_o hb (by omega)] at hat
  have hrecv := va_recv hC.2.2.2.2.2.2.2.2.1.1 hW.1 (vw_at hcb.1) hat
  have hpre := ph_pre hC hW hS' (.ref b :: As)
  have hra := ph_ra hW hb
  simp only [List.map_cons, hra] at hpre
  simp only [List.map_append, List.map_cons, List.map_reverse, hra]
  have hfx : CallFix p m c (mC k) (mL k) s args gw (mN k).cls := ⟨hC.1, hC.2.1, hC.2.2.1, hC.2.2.2.1, hC.2.2.2.2.1⟩
  rw [hcb.2] at hrecv
  have hcat : 2 * (F0 m pc Ls ((As.map (cv G)).reverse ++ Value.ref (gB G + b) :: rest.map (cv G))).monitorRoom + ((rest.map (cv G)).map fun v => v.category).sum ≤ 8 := by
    rw [ph_cats]; exact lv_room hf.2.2
  have hroom : u.1 + B'.1 ≤ R.cells ∧ u.2 + B'.2 ≤ R.slots := ⟨Nat.le_trans hf.1 hC.2.2.2.2.2.2.2.2.2.2.2.1, Nat.le_trans hf.2.1 hC.2.2.2.2.2.2.2.2.2.2.2.2⟩
  have hins := hC.2.2.2.2.1 _ (inG_mem hm.2.1)
  have hsel := hC.2.2.2.2.1 _ (inG_mem hm.2.2)
  refine ph_back (rest := rest.map (cv G)) (mc := B'.1) (ms := B'.2) (Q1 := fun r h' => wq G B (d + 1) k (pc + 3) ls (r.toList ++ rest) (u.1 + B'.1, u.2 + B'.2) h' Q) (a := (Value.ref (gB G + b) :: As.map (cv G)).toArray) ?_ hS' (fun r h1 H1 locs1 hq hw1 hS1 => ?_)
  rotate_left
  · have := hq p e R s m args below meth c H1 locs1 Ls hC hw1 hS1 hL
    rw [List.map_append] at this
    cases r <;> exact this
  · rcases hl with hl | hl
    · exact va_runV hfx kk ⟨ph_cb hC hm.1 (hC.2.2.2.2.1 _ (inG_mem hl)) hlim, hins, hsel⟩ ⟨ph_blind, hrecv, hpre⟩ rfl (by rw [List.length_map]; exact hn) hL.1 rfl hcat q1 hroom
    · exact va_runVN hfx kk ⟨ph_cn hC hm.1 (hC.2.2.2.2.2.2.2.2.1.2.1 _ (inN_mem hl)) hlim, hins, hsel⟩ ⟨ph_blind, hrecv, hpre⟩ rfl (by rw [List.length_map]; exact hn) hL.1 rfl hcat q1 hroom
theorem wq_callS {x wi k' ci ni n ii : Nat} {As rest : List Value} (q : qD k pc (.invokestatic x) 3 npc ∧ qI k x k' wi) (hm : mS k' ci ni n ii) (hst : As.reverse ++ rest = st) (hn : As.length = n) (hf : ph_fit B B' u rest)
    (kk : Ct G B' d k' As h (fun r h' => wq G B (d + 1) k npc ls (r.toList ++ rest) (u.1 + B'.1, u.2 + B'.2) h' Q)) : wq G B (d + 1) k pc ls st u h Q := by
  intro p e R s m args below meth c H locs Ls hC hW hS' hL
  obtain ⟨⟨q1, rfl⟩, hl, hlim⟩ := q
  subst hst
  have hpre := ph_pre hC hW hS' As
  simp only [List.map_append, List.map_reverse]
  have hfx : CallFix p m c (mC k) (mL k) s args gw (mN k).cls := ⟨hC.1, hC.2.1, hC.2.2.1, hC.2.2.2.1, hC.2.2.2.2.1⟩
  have hcat : 2 * (F0 m pc Ls ((As.map (cv G)).reverse ++ rest.map (cv G))).monitorRoom + ((rest.map (cv G)).map fun v => v.category).sum ≤ 8 := by
    rw [ph_cats]; exact lv_room hf.2.2
  have hroom : u.1 + B'.1 ≤ R.cells ∧ u.2 + B'.2 ≤ R.slots := ⟨Nat.le_trans hf.1 hC.2.2.2.2.2.2.2.2.2.2.2.1, Nat.le_trans hf.2.1 hC.2.2.2.2.2.2.2.2.2.2.2.2⟩
  have hins := hC.2.2.2.2.1 _ (inG_mem hm.2)
  refine ph_back (rest := rest.map (cv G)) (mc := B'.1) (ms := B'.2) (Q1 := fun r h' => wq G B (d + 1) k (pc + 3) ls (r.toList ++ rest) (u.1 + B'.1, u.2 + B'.2) h' Q) (a := (As.map (cv G)).toArray) ?_ hS' (fun r h1 H1 locs1 hq hw1 hS1 => ?_)
  rotate_left
  · have := hq p e R s m args below meth c H1 locs1 Ls hC hw1 hS1 hL
    rw [List.map_append] at this
    cases r <;> exact this
  · rcases hl with hl | hl
    · exact va_runS hfx kk ⟨ph_cb hC hm.1 (hC.2.2.2.2.1 _ (inG_mem hl)) hlim, hins⟩ ⟨ph_blind, hpre⟩ rfl (by rw [List.length_map]; exact hn) hL.1 rfl hcat q1 hroom
    · exact va_runSN hfx kk ⟨ph_cn hC hm.1 (hC.2.2.2.2.2.2.2.2.1.2.1 _ (inN_mem hl)) hlim, hins, trivial⟩ ⟨ph_blind, hpre⟩ rfl (by rw [List.length_map]; exact hn) hL.1 rfl hcat q1 hroom
theorem wq_callI {x wi k' ci ni n ii b : Nat} {As rest : List Value} {qb : Nat × Nat} (q : qD k pc (.invokespecial x) 3 npc ∧ qI k x k' wi ∧ mR k' = none) (hm : mU k' ci ni n ii) (hst : As.reverse ++ .ref b :: rest = st) (hn : As.length = n) (hb : (hS h)[b]? = some qb) (hf : ph_fit B B' u rest)
    (kk : Ct G B' d k' (.ref b :: As) h (fun r h' => wq G B (d + 1) k npc ls (r.toList ++ rest) (u.1 + B'.1, u.2 + B'.2) h' Q)) : wq G B (d + 1) k pc ls st u h Q := by
  intro p e R s m args below meth c H locs Ls hC hW hS' hL
  obtain ⟨⟨q1, rfl⟩, ⟨hl, hlim⟩, hvoid⟩ := q
  subst hst
  have hpre := ph_pre hC hW hS' (.ref b :: As)
  have hra := ph_ra hW hb
  simp only [List.map_cons, hra] at hpre
  simp only [List.map_append, List.map_cons, List.map_reverse, hra]
  have hfx : CallFix p m c (mC k) (mL k) s args gw (mN k).cls := ⟨hC.1, hC.2.1, hC.2.2.1, hC.2.2.2.1, hC.2.2.2.2.1⟩
  have hcat : 2 * (F0 m pc Ls ((As.map (cv G)).reverse ++ Value.ref (gB G + b) :: rest.map (cv G))).monitorRoom + ((rest.map (cv G)).map fun v => v.category).sum ≤ 8 := by
    rw [ph_cats]; exact lv_room hf.2.2
  have hroom : u.1 + B'.1 ≤ R.cells ∧ u.2 + B'.2 ≤ R.slots := ⟨Nat.le_trans hf.1 hC.2.2.2.2.2.2.2.2.2.2.2.1, Nat.le_trans hf.2.1 hC.2.2.2.2.2.2.2.2.2.2.2.2⟩
  have hins := hC.2.2.2.2.1 _ (inG_mem hm.2.1)
  refine ph_back (rest := rest.map (cv G)) (mc := B'.1) (ms := B'.2) (Q1 := fun r h' => wq G B (d + 1) k (pc + 3) ls (r.toList ++ rest) (u.1 + B'.1, u.2 + B'.2) h' Q) (a := (Value.ref (gB G + b) :: As.map (cv G)).toArray) ?_ hS' (fun r h1 H1 locs1 hq hw1 hS1 => ?_)
  rotate_left
  · have := hq p e R s m args below meth c H1 locs1 Ls hC hw1 hS1 hL
    rw [List.map_append] at this
    cases r <;> exact this
  · rcases hl with hl | hl
    · have hcb := ph_cb (B' := B') hC hm.1 (hC.2.2.2.2.1 _ (inG_mem hl)) hlim
      rw [hvoid] at hcb
      exact va_runI hfx kk ⟨hcb, hm.2.2, hins⟩ ⟨ph_blind, hpre⟩ rfl (by rw [List.length_map]; exact hn) hL.1 rfl hcat q1 hroom
    · have hcb := ph_cn (B' := B') hC hm.1 (hC.2.2.2.2.2.2.2.2.1.2.1 _ (inN_mem hl)) hlim
      rw [hvoid] at hcb
      exact va_runIN hfx kk ⟨hcb, hm.2.2, hins⟩ ⟨ph_blind, hpre⟩ rfl (by rw [List.length_map]; exact hn) hL.1 rfl hcat q1 hroom
end CALLS
end
section
/-! STORES INTO ARRAYS, CONSTANT ARRAYS, STATICS, NATIVES, SWITCHES -/
section STORES
variable {G : ph_G} {B : Nat × Nat} {d k pc npc : Nat} {ls ls' : List (Option Value)} {st : List Value} {u : Nat × Nat} {h : ph_H} {Q : Option Value → ph_H → Prop}
theorem ph_ceIa {a kd n i : Nat} {x : Int32} (ha : (hS h)[a]? = some (kd, n)) (h1 : 100 ≤ kd) (h2 : kd < 103) : ph_ce G (stI h a i x) a = .inl (gA G kd, n, .inl (va_up (hI h a) i x)) := by
  rw [ph_ce_a (h := stI h a i x) ha h1]
  simp only [ph_ar, if_pos h2, stI, hI, up2_s]
theorem ph_setI {a kd n i : Nat} {x : Int32} (ha : (hS h)[a]? = some (kd, n)) (h1 : 100 ≤ kd) (h2 : kd < 103) : (ph_ws G h).set a (gB G + a, .inl (gA G kd, n, .inl (va_up (hI h a) i x))) = ph_ws G (stI h a i x) := by
  rw [← ph_ceIa ha h1 h2]
  exact ph_set rfl (fun b hb => ph_ceI b hb)
theorem wq_iast {a n : Nat} {i x : Int32} (q : qD k pc .iastore 1 npc) (ha : (hS h)[a]? = some (100, n)) (hin : vp_in i n) (hfr : h.1 = false) (kk : wq G B d k npc ls st u (stI h a i.toNatClampNeg x) Q) : wq G B d k pc ls (.int x :: .int i :: .ref a :: st) u h Q := by
  intro p e R s m args below meth c H locs Ls hC hW hS' hL
  obtain ⟨q1, rfl⟩ := q
  simp only [List.map_cons, ph_ra hW ha]
  refine va_iast hC.1 hC.2.1 hC.2.2.2.2.2.2.2.2.1.1 hW.1 (ph_D G h) hS' a 0 (ph_aI ha (by omega) (by omega)) rfl hin q1 (fun H1 locs1 hP1 _ hS1 => ?_)
  have hP2 : va_P (gD G) vwCl (ph_ws G (stI h a i.toNatClampNeg x)) H1 := by
    rw [← ph_setI ha (by omega) (by omega)]; exact hP1
  exact kk p e R s m args below meth c H1 locs1 Ls hC ⟨hP2, hW.2.1, fun z => by rw [show (stI h a i.toNatClampNeg x).1 = h.1 from rfl, hfr] at z; cases z⟩ hS1 hL
theorem wq_bast {a n : Nat} {i x : Int32} (q : qD k pc .bastore 1 npc) (ha : (hS h)[a]? = some (101, n)) (hin : vp_in i n) (hfr : h.1 = false) (kk : wq G B d k npc ls st u (stI h a i.toNatClampNeg (vp_nar .byte x)) Q) : wq G B d k pc ls (.int x :: .int i :: .ref a :: st) u h Q := by
  intro p e R s m args below meth c H locs Ls hC hW hS' hL
  obtain ⟨q1, rfl⟩ := q
  simp only [List.map_cons, ph_ra hW ha]
  refine va_bast hC.1 hC.2.1 hC.2.2.2.2.2.2.2.2.1.1 hW.1 (ph_D G h) hS' a 1 (ph_aI ha (by omega) (by omega)) rfl hin q1 (fun H1 locs1 hP1 _ hS1 => ?_)
  have hP2 : va_P (gD G) vwCl (ph_ws G (stI h a i.toNatClampNeg (vp_nar .byte x))) H1 := by
    rw [← ph_setI ha (by omega) (by omega)]; exact hP1
  exact kk p e R s m args below meth c H1 locs1 Ls hC ⟨hP2, hW.2.1, fun z => by rw [show (stI h a i.toNatClampNeg (vp_nar .byte x)).1 = h.1 from rfl, hfr] at z; cases z⟩ hS1 hL
theorem wq_zast {a n : Nat} {i x : Int32} (q : qD k pc .bastore 1 npc) (ha : (hS h)[a]? = some (102, n)) (hin : vp_in i n) (hfr : h.1 = false) (kk : wq G B d k npc ls st u (stI h a i.toNatClampNeg (vp_nar .boolean x)) Q) : wq G B d k pc ls (.int x :: .int i :: .ref a :: st) u h Q := by
  intro p e R s m args below meth c H locs Ls hC hW hS' hL
  obtain ⟨q1, rfl⟩ := q
  simp only [List.map_cons, ph_ra hW ha]
  refine va_zast hC.1 hC.2.1 hC.2.2.2.2.2.2.2.2.1.1 hW.1 (ph_D G h) hS' a 2 (ph_aI ha (by omega) (by omega)) rfl hin q1 (fun H1 locs1 hP1 _ hS1 => ?_)
  have hP2 : va_P (gD G) vwCl (ph_ws G (stI h a i.toNatClampNeg (vp_nar .boolean x))) H1 := by
    rw [← ph_setI ha (by omega) (by omega)]; exact hP1
  exact kk p e R s m args below meth c H1 locs1 Ls hC ⟨hP2, hW.2.1, fun z => by rw [show (stI h a i.toNatClampNeg (vp_nar .boolean x)).1 = h.1 from rfl, hfr] at z; cases z⟩ hS1 hL
theorem ph_setL {a n i : Nat} {x : Int64} (ha : (hS h)[a]? = some (103, n)) : (ph_ws G h).set a (gB G + a, .inl (gA G 103, n, .inr (.inl (va_up (hL h a) i x)))) = ph_ws G (stL h a i x) := by
  have e : ph_ce G (stL h a i x) a = .inl (gA G 103, n, .inr (.inl (va_up (hL h a) i x))) := by
    rw [ph_ce_a (h := stL h a i x) ha (by omega)]
    simp only [ph_ar, stL, hL, up2_s]
    rfl
  rw [← e]
  exact ph_set rfl (fun b hb => ph_ceL b hb)
theorem wq_last {a n : Nat} {i : Int32} {x : Int64} (q : qD k pc .lastore 1 npc) (ha : (hS h)[a]? = some (103, n)) (hin : vp_in i n) (hfr : h.1 = false) (kk : wq G B d k npc ls st u (stL h a i.toNatClampNeg x) Q) : wq G B d k pc ls (.long x :: .int i :: .ref a :: st) u h Q := by
  intro p e R s m args below meth c H locs Ls hC hW hS' hL
  obtain ⟨q1, rfl⟩ := q
  simp only [List.map_cons, ph_ra hW ha]
  refine va_last hC.1 hC.2.1 hC.2.2.2.2.2.2.2.2.1.1 hW.1 (ph_D G h) hS' a 3 (ph_aL ha) rfl hin q1 (fun H1 locs1 hP1 _ hS1 => ?_)
  have hP2 : va_P (gD G) vwCl (ph_ws G (stL h a i.toNatClampNeg x)) H1 := by
    rw [← ph_setL ha]; exact hP1
  exact kk p e R s m args below meth c H1 locs1 Ls hC ⟨hP2, hW.2.1, fun z => by rw [show (stL h a i.toNatClampNeg x).1 = h.1 from rfl, hfr] at z; cases z⟩ hS1 hL
/-! constants -/
theorem ph_rk (i : Nat) : cv G (.ref (1000 + i)) = .ref (gK G i) := by show Value.ref _ = _; rw [ph_adK]
theorem wq_ialdC {j : Nat} {i : Int32} {cq : String × List Int32} (q : qD k pc .iaload 1 npc) (hc : cS[j]? = some cq) (hin : vp_in i cq.2.length) (kk : wq G B d k npc ls (.int (cq.2.getD i.toNatClampNeg 0) :: st) u h Q) : wq G B d k pc ls (.int i :: .ref (1000 + j) :: st) u h Q := by
  intro p e R s m args below meth c H locs Ls hC hW hS' hL
  obtain ⟨q1, rfl⟩ := q
  have kk := kk p e R s m args below meth c H locs Ls hC hW hS' hL
  simp only [List.map_cons, ph_rk] at kk ⊢
  exact va_ti hC.1 hC.2.1 (hC.2.2.2.2.2.2.2.2.1.2.2.2.1.1 j cq hc).2 hS' hin rfl q1 kk
theorem wq_scr {i : Int32} (q : qD k pc .iaload 1 npc) (hin : vp_in i (gN G)) (kk : wq G B d k npc ls (.int (gX G i.toNatClampNeg) :: st) u h Q) : wq G B d k pc ls (.int i :: .ref (1000 + 9) :: st) u h Q := by
  intro p e R s m args below meth c H locs Ls hC hW hS' hL
  obtain ⟨q1, rfl⟩ := q
  have kk := kk p e R s m args below meth c H locs Ls hC hW hS' hL
  simp only [List.map_cons, ph_rk] at kk ⊢
  exact va_ti hC.1 hC.2.1 hC.2.2.2.2.2.2.2.2.1.2.2.2.1.2.1 hS' hin rfl q1 kk
theorem wq_scrlen (q : qD k pc .arraylength 1 npc) (kk : wq G B d k npc ls (.int (Int32.ofNat (gN G)) :: st) u h Q) : wq G B d k pc ls (.ref (1000 + 9) :: st) u h Q := by
  intro p e R s m args below meth c H locs Ls hC hW hS' hL
  obtain ⟨q1, rfl⟩ := q
  have kk := kk p e R s m args below meth c H locs Ls hC hW hS' hL
  simp only [List.map_cons, ph_rk] at kk ⊢
  exact va_tlen hC.1 hC.2.1 hC.2.2.2.2.2.2.2.2.1.2.2.2.1.2.1 hS' rfl q1 kk
/-- a literal's bytes -/
theorem wq_strb {j : Nat} {i : Int32} (q : qD k pc .baload 1 npc) (hj : j < 8) (hin : vp_in i (cLen.getD j 0)) (kk : wq G B d k npc ls (.int ((cByt.getD j []).getD i.toNatClampNeg 0) :: st) u h Q) : wq G B d k pc ls (.int i :: .ref (1000 + (40 + j)) :: st) u h Q := by
  intro p e R s m args below meth c H locs Ls hC hW hS' hL
  obtain ⟨q1, rfl⟩ := q
  have kk := kk p e R s m args below meth c H locs Ls hC hW hS' hL
  simp only [List.map_cons, ph_rk] at kk ⊢
  exact va_tb hC.1 hC.2.1 (hC.2.2.2.2.2.2.2.2.1.2.2.2.1.2.2.1.1 j hj).2.2.2 hS' hin rfl q1 kk
theorem wq_strl {j : Nat} (q : qD k pc .arraylength 1 npc) (hj : j < 8) (kk : wq G B d k npc ls (.int (Int32.ofNat (cLen.getD j 0)) :: st) u h Q) : wq G B d k pc ls (.ref (1000 + (40 + j)) :: st) u h Q := by
  intro p e R s m args below meth c H locs Ls hC hW hS' hL
  obtain ⟨q1, rfl⟩ := q
  have kk := kk p e R s m args below meth c H locs Ls hC hW hS' hL
  simp only [List.map_cons, ph_rk] at kk ⊢
  exact va_tlen hC.1 hC.2.1 (hC.2.2.2.2.2.2.2.2.1.2.2.2.1.2.2.1.1 j hj).2.2.2 hS' rfl q1 kk
theorem wq_strv {j x wi : Nat} (q : qD k pc (.getfield x) 3 npc ∧ inG wi (.fieldLink (mN k).cls x "java/lang/String" "value" "[B")) (hj : j < 8) (kk : wq G B d k npc ls (.ref (1000 + (40 + j)) :: st) u h Q) : wq G B d k pc ls (.ref (1000 + (20 + j)) :: st) u h Q := by
  intro p e R s m args below meth c H locs Ls hC hW hS' hL
  obtain ⟨⟨q1, rfl⟩, q2⟩ := q
  have kk := kk p e R s m args below meth c H locs Ls hC hW hS' hL
  simp only [List.map_cons, ph_rk] at kk ⊢
  exact vk_getf hC.1 hC.2.1 (hC.2.2.2.2.2.2.2.2.1.2.2.2.1.2.2.1.1 j hj).2.2.1 hS' hC.2.2.2.1 (hC.2.2.2.2.1 _ (inG_mem q2)) (fun _ z => z) q1 kk
theorem wq_strc {j x wi : Nat} (q : qD k pc (.getfield x) 3 npc ∧ inG wi (.fieldLink (mN k).cls x "java/lang/String" "coder" "B")) (hj : j < 8) (kk : wq G B d k npc ls (.int 0 :: st) u h Q) : wq G B d k pc ls (.ref (1000 + (20 + j)) :: st) u h Q := by
  intro p e R s m args below meth c H locs Ls hC hW hS' hL
  obtain ⟨⟨q1, rfl⟩, q2⟩ := q
  have kk := kk p e R s m args below meth c H locs Ls hC hW hS' hL
  simp only [List.map_cons, ph_rk] at kk ⊢
  exact vk_getf hC.1 hC.2.1 (hC.2.2.2.2.2.2.2.2.1.2.2.2.1.2.2.1.1 j hj).2.1 hS' hC.2.2.2.1 (hC.2.2.2.2.1 _ (inG_mem q2)) (fun _ z => z) q1 kk
theorem wq_getS {j x wi : Nat} {cq : String × List Int32} (q : qD k pc (.getstatic x) 3 npc ∧ cS[j]? = some cq ∧ inN wi (.fieldLinkNest (mN k).cls x RX10 cq.1 "[I" "OneWindow")) (kk : wq G B d k npc ls (.ref (1000 + j) :: st) u h Q) : wq G B d k pc ls st u h Q := by
  intro p e R s m args below meth c H locs Ls hC hW hS' hL
  obtain ⟨⟨q1, rfl⟩, q2, q3⟩ := q
  have kk := kk p e R s m args below meth c H locs Ls hC hW hS' hL
  simp only [List.map_cons, ph_rk] at kk
  exact va_getsN hC.1 hC.2.1 (hC.2.2.2.2.2.2.2.2.1.2.2.2.1.1 j cq q2).1 hS' hC.2.2.2.1 (va_Nw.use rfl (hC.2.2.2.2.2.2.2.2.1.2.1 _ (inN_mem q3))) (fun _ z => z) q1 kk
theorem wq_getCS {x wi : Nat} (q : qD k pc (.getstatic x) 3 npc ∧ inG wi (.fieldLink (mN k).cls x RJ0 "COMPACT_STRINGS" "Z")) (kk : wq G B d k npc ls (.int 1 :: st) u h Q) : wq G B d k pc ls st u h Q := by
  intro p e R s m args below meth c H locs Ls hC hW hS' hL
  obtain ⟨⟨q1, rfl⟩, q3⟩ := q
  have kk := kk p e R s m args below meth c H locs Ls hC hW hS' hL
  exact va_gets hC.1 hC.2.1 hC.2.2.2.2.2.2.2.2.1.2.2.2.1.2.2.2.1 hS' hC.2.2.2.1 (hC.2.2.2.2.1 _ (inG_mem q3)) (fun _ z => z) q1 kk
theorem wq_getFm {x wi : Nat} (q : qD k pc (.getstatic x) 3 npc ∧ inG wi (.fieldLink (mN k).cls x RJ3 "SIOOBE_FORMATTER" "Ljava/util/function/BiFunction;")) (kn : wq G B d k npc ls (.null :: st) u h Q) (kk : wq G B d k npc ls (.ref (1000 + 60) :: st) u h Q) : wq G B d k pc ls st u h Q := by
  intro p e R s m args below meth c H locs Ls hC hW hS' hL
  obtain ⟨⟨q1, rfl⟩, q3⟩ := q
  have kn := kn p e R s m args below meth c H locs Ls hC hW hS' hL
  have kk := kk p e R s m args below meth c H locs Ls hC hW hS' hL
  simp only [List.map_cons, ph_rk] at kk
  rcases hC.2.2.2.2.2.2.2.2.1.2.2.2.1.2.2.2.2.2.2 with hz | hz
  · exact va_gets hC.1 hC.2.1 hz hS' hC.2.2.2.1 (hC.2.2.2.2.1 _ (inG_mem q3)) (fun _ z => z) q1 kn
  · exact va_gets hC.1 hC.2.1 hz hS' hC.2.2.2.1 (hC.2.2.2.2.1 _ (inG_mem q3)) (fun _ z => z) q1 kk
/-! switch -/
theorem wq_switch {dflt lo hi : Int} {offs : Array Int} {len tgt : Nat} {x : Int32} (q : qD k pc (.tableswitch dflt lo hi offs) len npc ∧ (pc : Int) + dflt = (tgt : Int) ∧ (hi - lo + 1).toNat = offs.size) (ts : List Nat) (hts : offs.toList.map (fun o => ((pc : Int) + o)) = ts.map (fun (t : Nat) => (t : Int)))
    (kd : (x.toInt < lo ∨ hi < x.toInt) → wq G B d k tgt ls st u h Q) (kt : ∀ (i t : Nat), ts[i]? = some t → x.toInt = lo + i → wq G B d k t ls st u h Q) : wq G B d k pc ls (.int x :: st) u h Q := by
  intro p e R s m args below meth c H locs Ls hC hW hS' hL
  obtain ⟨⟨q1, rfl⟩, q2, q3⟩ := q
  by_cases hx : x.toInt < lo ∨ hi < x.toInt
  · exact lv_tableOut hC.1 hC.2.1 q1 hx q2 (kd hx p e R s m args below meth c H locs Ls hC hW hS' hL)
  · have hx1 : ¬ x.toInt < lo := fun z => hx (Or.inl z)
    have hx2 : ¬ hi < x.toInt := fun z => hx (Or.inr z)
    have hlt : (x.toInt - lo).toNat < offs.size := by omega
    obtain ⟨o, ho⟩ : ∃ o, offs[(x.toInt - lo).toNat]? = some o := ⟨_, Array.getElem?_eq_getElem hlt⟩
    have ho2 : offs.toList[(x.toInt - lo).toNat]? = some o := by rw [Array.getElem?_toList]; exact ho
    have h3 := congrArg (fun l => l[(x.toInt - lo).toNat]?) hts
    simp only [List.getElem?_map, ho2, Option.map_some] at h3
    cases ht : ts[(x.toInt - lo).toNat]? with
    | none => rw [ht] at h3; simp at h3
    | some t =>
      rw [ht] at h3
      simp only [Option.map_some, Option.some.injEq] at h3
      exact lv_tableIn hC.1 hC.2.1 q1 hx1 hx2 ho h3 (kt _ t ht (by omega) p e R s m args below meth c H locs Ls hC hW hS' hL)
end STORES
end
section
/-! MATH, ARRAYCOPY, OBJECT'S CONSTRUCTOR, WHAT IS MADE -/
theorem mw_max : inG 484 (.static Lib.Math.max.name) ∧ inG 126 (.initialized "java/lang/Math") ∧ inG 485 (.code Lib.Math.max.name Lib.Math.max.code 2 (some .int)) := by decide +kernel
theorem mw_min : inG 487 (.static Lib.Math.min.name) ∧ inG 126 (.initialized "java/lang/Math") ∧ inG 488 (.code Lib.Math.min.name Lib.Math.min.code 2 (some .int)) := by decide +kernel
theorem mw_abs : inG 1155 (.static Lib.Math.abs.name) ∧ inG 126 (.initialized "java/lang/Math") ∧ inG 1156 (.code Lib.Math.abs.name Lib.Math.abs.code 1 (some .int)) := by decide +kernel
theorem mw_maxL : inG 871 (.static Lib.MathLoose.max_long.x) ∧ inG 126 (.initialized "java/lang/Math") ∧ inG 872 (.code Lib.MathLoose.max_long.x Lib.MathLoose.max_long.code 4 (some .long)) := by decide +kernel
theorem mw_minL : inG 868 (.static Lib.MathLoose.min_long.x) ∧ inG 126 (.initialized "java/lang/Math") ∧ inG 869 (.code Lib.MathLoose.min_long.x Lib.MathLoose.min_long.code 4 (some .long)) := by decide +kernel
theorem mw_copy : inG 423 (.native arraycopyName) ∧ inG 422 (.static arraycopyName) ∧ inG 123 (.initialized "java/lang/System") := by decide +kernel
theorem mw_obj : inG 142 (.instanceMethod Lib.objectInit) ∧ inG 143 (.code Lib.objectInit ⟨#[0xb1]⟩ 1 none) := by decide +kernel
section NAT
variable {G : ph_G} {B : Nat × Nat} {d k pc npc : Nat} {ls ls' : List (Option Value)} {st : List Value} {u : Nat × Nat} {h : ph_H} {Q : Option Value → ph_H → Prop}
abbrev ph_fit0 (B u : Nat × Nat) (rest : List Value) : Prop := u.1 ≤ B.1 ∧ u.2 ≤ B.2 ∧ (rest.map fun v => v.category).sum ≤ 8
theorem wq_max {xi wi : Nat} {x y : Int32} (q : qD k pc (.invokestatic xi) 3 npc ∧ inG wi (.methodLink (mN k).cls xi Lib.Math.max.name)) (hf : ph_fit0 B u st) (kk : wq G B (d + 1) k npc ls (.int (if x < y then y else x) :: st) u h Q) : wq G B (d + 1) k pc ls (.int y :: .int x :: st) u h Q := by
  intro p e R s m args below meth c H locs Ls hC hW hS' hL
  obtain ⟨⟨q1, rfl⟩, q2⟩ := q
  have hts := hC.2.2.2.2.1
  have hR := hC.2.2.2.2.2.2.2.2.2
  exact va_mmax hC.1 hC.2.1 (hC.2.2.1.trans hL.1.symm) hC.2.2.2.1 (hts _ (inG_mem q2)) (hts _ (inG_mem mw_max.1)) (hts _ (inG_mem mw_max.2.1)) (hts _ (inG_mem mw_max.2.2)) (by omega) (by rw [ph_cats]; omega) (Nat.le_trans hf.1 hR.2.2.1) (Nat.le_trans hf.2.1 hR.2.2.2) q1 (kk p e R s m args below meth c H locs Ls hC hW hS' hL)
theorem wq_min {xi wi : Nat} {x y : Int32} (q : qD k pc (.invokestatic xi) 3 npc ∧ inG wi (.methodLink (mN k).cls xi Lib.Math.min.name)) (hf : ph_fit0 B u st) (kk : wq G B (d + 1) k npc ls (.int (if y < x then y else x) :: st) u h Q) : wq G B (d + 1) k pc ls (.int y :: .int x :: st) u h Q := by
  intro p e R s m args below meth c H locs Ls hC hW hS' hL
  obtain ⟨⟨q1, rfl⟩, q2⟩ := q
  have hts := hC.2.2.2.2.1
  have hR := hC.2.2.2.2.2.2.2.2.2
  exact va_mmin hC.1 hC.2.1 (hC.2.2.1.trans hL.1.symm) hC.2.2.2.1 (hts _ (inG_mem q2)) (hts _ (inG_mem mw_min.1)) (hts _ (inG_mem mw_min.2.1)) (hts _ (inG_mem mw_min.2.2)) (by omega) (by rw [ph_cats]; omega) (Nat.le_trans hf.1 hR.2.2.1) (Nat.le_trans hf.2.1 hR.2.2.2) q1 (kk p e R s m args below meth c H locs Ls hC hW hS' hL)
theorem wq_abs {xi wi : Nat} {x : Int32} (q : qD k pc (.invokestatic xi) 3 npc ∧ inG wi (.methodLink (mN k).cls xi Lib.Math.abs.name)) (hf : ph_fit0 B u st) (kk : wq G B (d + 1) k npc ls (.int (if 0 ≤ x then x else 0 - x) :: st) u h Q) : wq G B (d + 1) k pc ls (.int x :: st) u h Q := by
  intro p e R s m args below meth c H locs Ls hC hW hS' hL
  obtain ⟨⟨q1, rfl⟩, q2⟩ := q
  have hts := hC.2.2.2.2.1
  have hR := hC.2.2.2.2.2.2.2.2.2
  exact va_mabs hC.1 hC.2.1 (hC.2.2.1.trans hL.1.symm) hC.2.2.2.1 (hts _ (inG_mem q2)) (hts _ (inG_mem mw_abs.1)) (hts _ (inG_mem mw_abs.2.1)) (hts _ (inG_mem mw_abs.2.2)) (by omega) (by rw [ph_cats]; omega) (Nat.le_trans hf.1 hR.2.2.1) (Nat.le_trans hf.2.1 hR.2.2.2) q1 (kk p e R s m args below meth c H locs Ls hC hW hS' hL)
theorem wq_maxL {xi wi : Nat} {x y : Int64} (q : qD k pc (.invokestatic xi) 3 npc ∧ inG wi (.methodLink (mN k).cls xi Lib.MathLoose.max_long.x)) (hf : ph_fit0 B u st) (kk : wq G B (d + 1) k npc ls (.long (if y < x then x else y) :: st) u h Q) : wq G B (d + 1) k pc ls (.long y :: .long x :: st) u h Q := by
  intro p e R s m args below meth c H locs Ls hC hW hS' hL
  obtain ⟨⟨q1, rfl⟩, q2⟩ := q
  have hts := hC.2.2.2.2.1
  have hR := hC.2.2.2.2.2.2.2.2.2
  exact va_mmax_long hC.1 hC.2.1 (hC.2.2.1.trans hL.1.symm) hC.2.2.2.1 (hts _ (inG_mem q2)) (hts _ (inG_mem mw_maxL.1)) (hts _ (inG_mem mw_maxL.2.1)) (hts _ (inG_mem mw_maxL.2.2)) (by omega) (by rw [ph_cats]; omega) (Nat.le_trans hf.1 hR.2.2.1) (Nat.le_trans hf.2.1 hR.2.2.2) q1 (kk p e R s m args below meth c H locs Ls hC hW hS' hL)
theorem wq_minL {xi wi : Nat} {x y : Int64} (q : qD k pc (.invokestatic xi) 3 npc ∧ inG wi (.methodLink (mN k).cls xi Lib.MathLoose.min_long.x)) (hf : ph_fit0 B u st) (kk : wq G B (d + 1) k npc ls (.long (if y < x then y else x) :: st) u h Q) : wq G B (d + 1) k pc ls (.long y :: .long x :: st) u h Q := by
  intro p e R s m args below meth c H locs Ls hC hW hS' hL
  obtain ⟨⟨q1, rfl⟩, q2⟩ := q
  have hts := hC.2.2.2.2.1
  have hR := hC.2.2.2.2.2.2.2.2.2
  exact va_mmin_long hC.1 hC.2.1 (hC.2.2.1.trans hL.1.symm) hC.2.2.2.1 (hts _ (inG_mem q2)) (hts _ (inG_mem mw_minL.1)) (hts _ (inG_mem mw_minL.2.1)) (hts _ (inG_mem mw_minL.2.2)) (by omega) (by rw [ph_cats]; omega) (Nat.le_trans hf.1 hR.2.2.1) (Nat.le_trans hf.2.1 hR.2.2.2) q1 (kk p e R s m args below meth c H locs Ls hC hW hS' hL)
theorem wq_obj {xi wi a : Nat} {qa : Nat × Nat} (q : qD k pc (.invokespecial xi) 3 npc ∧ inG wi (.methodLink (mN k).cls xi Lib.objectInit)) (ha : (hS h)[a]? = some qa) (hf : ph_fit0 B u st) (kk : wq G B (d + 1) k npc ls st u h Q) : wq G B (d + 1) k pc ls (.ref a :: st) u h Q := by
  intro p e R s m args below meth c H locs Ls hC hW hS' hL
  obtain ⟨⟨q1, rfl⟩, q2⟩ := q
  have hts := hC.2.2.2.2.1
  have hR := hC.2.2.2.2.2.2.2.2.2
  simp only [List.map_cons, ph_ra hW ha]
  exact W.objInit hC.1 hC.2.1 hC.2.2.2.1 (hts _ (inG_mem q2)) (hts _ (inG_mem mw_obj.1)) (hts _ (inG_mem mw_obj.2)) rfl (hL.1.trans hC.2.2.1.symm) rfl q1 (by omega) (by rw [ph_cats]; show 2 * 0 + _ + 12 ≤ _; omega) (kk p e R s m args below meth c H locs Ls hC hW hS' hL)
/-- arraycopy of ints: a whole stretch of a row -/
def stC (h : ph_H) (a : Nat) (f : Nat → Int32) : ph_H := (h.1, h.2.1, (fun b => if b = a then f else h.2.2.1 b), h.2.2.2.1, h.2.2.2.2)
theorem ph_ceC {a : Nat} {f : Nat → Int32} (b : Nat) (hb : b ≠ a) : ph_ce G (stC h a f) b = ph_ce G h b := by
  have e1 : hS (stC h a f) = hS h := rfl
  have e2 : ∀ t s, ph_fv G (stC h a f) b t s = ph_fv G h b t s := by
    intro t s
    cases t <;> simp only [ph_fv, stC, hI, hL, hR, if_neg hb]
  simp only [ph_ce, e1, e2, ph_ar]
  simp only [stC, hI, hL, hR, if_neg hb]
theorem ph_setC {a n : Nat} {f : Nat → Int32} (ha : (hS h)[a]? = some (100, n)) : (ph_ws G h).set a (gB G + a, .inl (gA G 100, n, .inl f)) = ph_ws G (stC h a f) := by
  have e : ph_ce G (stC h a f) a = .inl (gA G 100, n, .inl f) := by
    rw [ph_ce_a (h := stC h a f) ha (by omega)]
    simp only [ph_ar, stC, hI, if_pos]
    rfl
  rw [← e]
  exact ph_set rfl (fun b hb => ph_ceC b hb)
theorem nfw : nativeFrameWords "java/lang/System" "arraycopy" 5 + 11 ≤ 52 := by decide +kernel
theorem wq_copy {xi wi a0 a n0 n1 : Nat} {sp dp n : Int32} (q : qD k pc (.invokestatic xi) 3 npc ∧ inG wi (.methodLink (mN k).cls xi arraycopyName)) (ha0 : (hS h)[a0]? = some (100, n0)) (ha : (hS h)[a]? = some (100, n1)) (h1 : ¬ sp < 0) (h2 : ¬ dp < 0) (h3 : ¬ n < 0) (h4 : sp.toNatClampNeg + n.toNatClampNeg ≤ n0) (h5 : dp.toNatClampNeg + n.toNatClampNeg ≤ n1) (hfr : h.1 = false) (hf : ph_fit0 B u st)
    (kk : wq G B (d + 1) k npc ls st u (stC h a (va_cpy (hI h a0) (hI h a) sp.toNatClampNeg dp.toNatClampNeg n.toNatClampNeg)) Q) : wq G B (d + 1) k pc ls (.int n :: .int dp :: .ref a :: .int sp :: .ref a0 :: st) u h Q := by
  intro p e R s m args below meth c H locs Ls hC hW hS' hL
  obtain ⟨⟨q1, rfl⟩, q2⟩ := q
  have hts := hC.2.2.2.2.1
  have hR := hC.2.2.2.2.2.2.2.2.2
  have hnf := nfw
  simp only [List.map_cons, ph_ra hW ha, ph_ra hW ha0]
  refine va_copyi hC.1 hC.2.1 (hC.2.2.1.trans hL.1.symm) hC.2.2.2.1 (hts _ (inG_mem q2)) (hts _ (inG_mem mw_copy.1)) (hts _ (inG_mem mw_copy.2.1)) (hts _ (inG_mem mw_copy.2.2)) hC.2.2.2.2.2.2.2.2.1.1 hW.1 (ph_D G h) hS' a0 a 0 0 (ph_aI ha0 (by omega) (by omega)) (ph_aI ha (by omega) (by omega)) rfl rfl rfl h1 h2 h3 h4 h5 (fun _ _ => rfl) (by omega) (by rw [ph_cats]; omega) q1 (fun H1 locs1 hP1 _ hS1 => ?_)
  have hP2 : va_P (gD G) vwCl (ph_ws G (stC h a (va_cpy (hI h a0) (hI h a) sp.toNatClampNeg dp.toNatClampNeg n.toNatClampNeg))) H1 := by
    rw [← ph_setC ha]; exact hP1
  exact kk p e R s m args below meth c H1 locs1 Ls hC ⟨hP2, hW.2.1, fun z => by rw [show (stC h a (va_cpy (hI h a0) (hI h a) sp.toNatClampNeg dp.toNatClampNeg n.toNatClampNeg)).1 = h.1 from rfl, hfr] at z; cases z⟩ hS1 hL
end NAT
end
section
/-! WHAT IS MADE: objects and arrays; a literal's methods; arraycopy out of a constant -/
section MAKE
variable {G : ph_G} {B B' : Nat × Nat} {d k pc npc : Nat} {ls ls' : List (Option Value)} {st : List Value} {u : Nat × Nat} {h : ph_H} {Q : Option Value → ph_H → Prop}
def stN (h : ph_H) (q : Nat × Nat) : ph_H := (h.1, h.2.1 ++ [q], h.2.2.1, h.2.2.2.1, h.2.2.2.2)
def ph_new (h : ph_H) (n : Nat) : Prop := (hS h).length = n ∧ n < 1000 ∧ h.1 = true ∧ (∀ s, hI h n s = 0) ∧ (∀ s, hL h n s = 0) ∧ (∀ s, hR h n s = none)
theorem ph_wsN {n : Nat} {q : Nat × Nat} (hn : (hS h).length = n) : ph_ws G (stN h q) = ph_ws G h ++ [(gB G + n, ph_ce G (stN h q) n)] := by
  subst hn
  have e : (hS (stN h q)).length = (hS h).length + 1 := by simp [stN, hS]
  unfold ph_ws
  rw [e, List.range_succ, List.map_append]
  congr 1
  apply List.map_congr_left
  intro a ha
  have ha' := List.mem_range.mp ha
  have e2 : (hS (stN h q))[a]? = (hS h)[a]? := by
    show (hS h ++ [q])[a]? = _
    rw [List.getElem?_append_left ha']
  simp only [ph_ce, e2]
  rfl
theorem ph_atN {n : Nat} {q : Nat × Nat} (hn : (hS h).length = n) : (hS (stN h q))[n]? = some q := by
  subst hn
  show (hS h ++ [q])[(hS h).length]? = _
  simp
theorem ph_ceNo {n ci N : Nat} (hn : ph_new h n) (hc : ci < 100) : ph_ce G (stN h (ci, N)) n = .inr (ci, (List.range N).map (fun s => ph_fv G (stN h (ci, N)) n (ph_fty ci s) s)) := ph_ce_o (ph_atN hn.1) hc
theorem ph_defV {n : Nat} {q : Nat × Nat} (hn : ph_new h n) (t : FieldType) (s : Nat) (ht : fK t < 3) : ph_fv G (stN h q) n t s = defaultValue t := by
  have h1 : hI (stN h q) n s = 0 := hn.2.2.2.1 s
  have h2 : hL (stN h q) n s = 0 := hn.2.2.2.2.1 s
  have h3 : hR (stN h q) n s = none := hn.2.2.2.2.2 s
  cases t <;> first | (simp only [ph_fv, h1, h2, h3]; rfl) | (simp [fK] at ht)
theorem fK_all : ∀ ci, ci < 12 → ∀ s, s < 48 → fK (ph_fty ci s) < 3 := by decide +kernel
theorem vN_all : ∀ ci, ci < 12 → vN ci ≤ 48 := by decide +kernel
theorem wq_new {x w1 w2 w3 ci n : Nat} (q : qD k pc (.new x) 3 npc ∧ ci < 12 ∧ inG w1 (.classLink (mN k).cls x (vC ci)) ∧ inG w2 (.instantiable (vC ci) (vN ci)) ∧ inG w3 (.initialized (vC ci))) (hn : ph_new h n) (hu : u.1 + 1 ≤ B.1 ∧ u.2 + vN ci ≤ B.2)
    (kk : wq G B d k npc ls (.ref n :: st) (u.1 + 1, u.2 + vN ci) (stN h (ci, vN ci)) Q) : wq G B d k pc ls st u h Q := by
  intro p e R s m args below meth c H locs Ls hC hW hS' hL
  obtain ⟨⟨q1, rfl⟩, hci, q2, q3, q4⟩ := q
  have hts := hC.2.2.2.2.1
  have hR := hC.2.2.2.2.2.2.2.2.2
  have hK := hC.2.2.2.2.2.2.2.2.1.1
  have hKn := hK.1 ci _ (vw_at hci)
  have hsz : H.size = gB G + n := by rw [← hn.1]; exact hW.2.2 hn.2.2.1
  have had : ph_ad G n = gB G + n := if_pos hn.2.1
  refine W.newcK hC.1 hC.2.1 hC.2.2.2.1 (hts _ (inG_mem q2)) (hts _ (inG_mem q3)) (hts _ (inG_mem q4)) rfl q1 (Nat.le_trans hu.1 hR.2.2.1) (Nat.le_trans hu.2 hR.2.2.2) hKn.2.1 rfl fun H1 kC hkC e1 z1 o1 => ?_
  have hk : ∀ (k : Nat) (x : Nat × va_E), (ph_ws G h)[k]? = some x → H1[x.1]? = H[x.1]? := fun k x hx => o1 x.1 ((hW.1 k x hx).lt)
  have hP1 : va_P (gD G) vwCl (ph_ws G (stN h (ci, vN ci))) H1 := by
    rw [ph_wsN hn.1]
    refine (hW.1.kept hk).app (fun j y hy => ?_)
    have hz : j < 1 := (List.getElem?_eq_some_iff.mp hy).1
    rw [show j = 0 by omega] at hy
    cases hy
    rw [ph_ceNo hn (by omega), ← hsz]
    refine ⟨_, vw_at hci, (u_born (ph_fty ci) hts (vws_in hci) hKn hkC e1 (vty_ok hci)).to (fun j hj => ?_)⟩
    have hj2 : j < vN ci := hj
    have h48 := vN_all ci hci
    simp only [vp_V, List.getD_eq_getElem?_getD, List.getElem?_map, List.getElem?_range hj2, Option.map_some, Option.getD_some]
    exact (ph_defV hn _ _ (fK_all ci hci j (by omega))).symm
  have hS1 : va_S (ph_A G) s.heap H1 locs := ⟨Nat.le_trans hS'.1 (by omega), fun x h1 h2 => (o1 x (Nat.lt_of_lt_of_le h1 hS'.1)).trans (hS'.2.1 x h1 h2), hS'.2.2⟩
  have := kk p e R s m args below meth c H1 locs Ls hC ⟨hP1, by simp [stN, hS, hn.1]; have := hn.1; have := hn.2.1; omega, fun _ => by simp [stN, hS]; have := hn.1; simp [hS] at this; omega⟩ hS1 hL
  simp only [List.map_cons, cv, had, ← hsz] at this
  exact this
def kty (kd : Nat) : FieldType := if kd = 100 then .int else if kd = 101 then .byte else if kd = 102 then .boolean else .long
theorem ph_arN {n kd N : Nat} (hn : ph_new h n) (hk : kd = 100 ∨ kd = 101 ∨ kd = 102 ∨ kd = 103) : ph_ce G (stN h (kd, N)) n = .inl (gA G kd, ph_ar G (stN h (kd, N)) n kd N) ∧ vp_cell (gA G kd) (ph_ar G (stN h (kd, N)) n kd N) = arrV (gA G kd) N (fun _ => defaultValue (kty kd)) := by
  have h1 : hI (stN h (kd, N)) n = fun _ => 0 := funext hn.2.2.2.1
  have h2 : hL (stN h (kd, N)) n = fun _ => 0 := funext hn.2.2.2.2.1
  refine ⟨ph_ce_a (ph_atN hn.1) (by omega), ?_⟩
  rcases hk with rfl | rfl | rfl | rfl <;> simp only [ph_ar, h1, h2] <;> rfl
theorem wq_newa {atype : ArrayType} {wi kd n N : Nat} {x : Int32} (q : qD k pc (.newarray atype) 2 npc ∧ (kd = 100 ∨ kd = 101 ∨ kd = 102 ∨ kd = 103) ∧ newarray.typeOf atype = kty kd ∧ inG wi (.arrayClass (kty kd))) (hx : ¬ x < 0 ∧ x.toNatClampNeg = N ∧ N * 8 ≤ 536870912) (hn : ph_new h n) (hu : u.1 + 1 ≤ B.1 ∧ u.2 + N ≤ B.2)
    (kk : wq G B d k npc ls (.ref n :: st) (u.1 + 1, u.2 + N) (stN h (kd, N)) Q) : wq G B d k pc ls (.int x :: st) u h Q := by
  intro p e R s m args below meth c H locs Ls hC hW hS' hL
  obtain ⟨⟨q1, rfl⟩, hkd, hty, q2⟩ := q
  have hts := hC.2.2.2.2.1
  have hR := hC.2.2.2.2.2.2.2.2.2
  have hK := hC.2.2.2.2.2.2.2.2.1.1
  have hsz : H.size = gB G + n := by rw [← hn.1]; exact hW.2.2 hn.2.2.1
  have had : ph_ad G n = gB G + n := if_pos hn.2.1
  have hbytes : N * componentBytes (newarray.typeOf atype) ≤ 536870912 := by
    have hc : componentBytes (newarray.typeOf atype) ≤ 8 := by cases atype <;> decide
    exact Nat.le_trans (Nat.mul_le_mul_left N hc) hx.2.2
  refine va_newaK hC.1 hC.2.1 (by rw [hty]; exact hts _ (inG_mem q2)) rfl q1 rfl hx.1 hx.2.1 hbytes (Nat.le_trans hu.1 hR.2.2.1) (Nat.le_trans hu.2 hR.2.2.2) rfl fun H1 cA e1 z1 o1 hAr hNm => ?_
  rw [hty] at e1 hNm
  have hcA : cA = gA G kd := by
    rcases hkd with rfl | rfl | rfl | rfl
    · exact Option.some.inj (hNm.symm.trans (hK.2 0 _ rfl).2)
    · exact Option.some.inj (hNm.symm.trans (hK.2 1 _ rfl).2)
    · exact Option.some.inj (hNm.symm.trans (hK.2 2 _ rfl).2)
    · exact Option.some.inj (hNm.symm.trans (hK.2 3 _ rfl).2)
  subst hcA
  obtain ⟨g1, g2⟩ := ph_arN (G := G) (N := N) hn hkd
  have hk : ∀ (k : Nat) (x : Nat × va_E), (ph_ws G h)[k]? = some x → H1[x.1]? = H[x.1]? := fun k x hx => o1 x.1 ((hW.1 k x hx).lt)
  have hP1 : va_P (gD G) vwCl (ph_ws G (stN h (kd, N))) H1 := by
    rw [ph_wsN hn.1]
    refine (hW.1.kept hk).app (fun j y hy => ?_)
    have hz : j < 1 := (List.getElem?_eq_some_iff.mp hy).1
    rw [show j = 0 by omega] at hy
    cases hy
    rw [g1, ← hsz]
    show H1[H.size]? = some (vp_cell _ _)
    rw [g2]
    exact e1
  have hS1 : va_S (ph_A G) s.heap H1 locs := ⟨Nat.le_trans hS'.1 (by omega), fun x h1 h2 => (o1 x (Nat.lt_of_lt_of_le h1 hS'.1)).trans (hS'.2.1 x h1 h2), hS'.2.2⟩
  have := kk p e R s m args below meth c H1 locs Ls hC ⟨hP1, by simp [stN, hS]; have := hn.1; simp [hS] at this; have := hn.2.1; omega, fun _ => by simp [stN, hS]; have := hn.1; simp [hS] at this; omega⟩ hS1 hL
  simp only [List.map_cons, cv, had, ← hsz] at this
  exact this
theorem wq_newq {x w1 kd n N : Nat} {y : Int32} {C : String} (q : qD k pc (.anewarray x) 3 npc ∧ ((kd = 104 ∧ C = RX5) ∨ (kd = 105 ∧ C = RX6)) ∧ inG w1 (.classLink (mN k).cls x C)) (hx : ¬ y < 0 ∧ y.toNatClampNeg = N ∧ N * 4 ≤ 536870912) (hn : ph_new h n) (hu : u.1 + 1 ≤ B.1 ∧ u.2 + N ≤ B.2)
    (kk : wq G B d k npc ls (.ref n :: st) (u.1 + 1, u.2 + N) (stN h (kd, N)) Q) : wq G B d k pc ls (.int y :: st) u h Q := by
  intro p e R s m args below meth c H locs Ls hC hW hS' hL
  obtain ⟨⟨q1, rfl⟩, hkd, q2⟩ := q
  have hts := hC.2.2.2.2.1
  have hRm := hC.2.2.2.2.2.2.2.2.2
  have hK := hC.2.2.2.2.2.2.2.2.1
  have hsz : H.size = gB G + n := by rw [← hn.1]; exact hW.2.2 hn.2.2.1
  have had : ph_ad G n = gB G + n := if_pos hn.2.1
  have hAO : va_AO C s := by
    rcases hkd with ⟨-, rfl⟩ | ⟨-, rfl⟩
    · exact hK.2.2.2.2.2.2.1
    · exact hK.2.2.2.2.2.2.2
  obtain ⟨h1, h2, h3⟩ := hx
  subst h2
  refine W.anew hC.1 hC.2.1 hC.2.2.2.1 (hts _ (inG_mem q2)) (va_AO.use hAO) rfl q1 rfl h1 h3 (Nat.le_trans hu.1 hRm.2.2.1) (Nat.le_trans hu.2 hRm.2.2.2) fun cA kA comp f1 f2 f3 f4 => ?_
  generalize hH1 : H.push ({ cls := cA, slots := Array.replicate y.toNatClampNeg .null, vm := .none } : Cell) = H1
  have z1 : H1.size = H.size + 1 := by rw [← hH1, Array.size_push]
  have e1 : H1[H.size]? = some (arrV cA y.toNatClampNeg (fun _ => .null)) := by rw [← hH1, Array.getElem?_push_size, ← arrV_new]
  have o1 : ∀ q : Nat, q < H.size → H1[q]? = H[q]? := fun q hq => by rw [← hH1, Array.getElem?_push, if_neg (Nat.ne_of_lt hq)]
  have hcA : cA = gA G kd := by
    rcases hkd with ⟨rfl, rfl⟩ | ⟨rfl, rfl⟩
    · obtain ⟨_, _, -, -, -, g4⟩ := (hK.1.2 4 _ rfl).2
      exact Option.some.inj (f1.symm.trans g4)
    · obtain ⟨_, _, -, -, -, g4⟩ := (hK.1.2 5 _ rfl).2
      exact Option.some.inj (f1.symm.trans g4)
  subst hcA
  have hk : ∀ (k : Nat) (x : Nat × va_E), (ph_ws G h)[k]? = some x → H1[x.1]? = H[x.1]? := fun k x hx => o1 x.1 ((hW.1 k x hx).lt)
  have hkd2 : 104 ≤ kd := by rcases hkd with ⟨rfl, -⟩ | ⟨rfl, -⟩ <;> omega
  have hP1 : va_P (gD G) vwCl (ph_ws G (stN h (kd, y.toNatClampNeg))) H1 := by
    rw [ph_wsN hn.1]
    refine (hW.1.kept hk).app (fun j y2 hy => ?_)
    have hz : j < 1 := (List.getElem?_eq_some_iff.mp hy).1
    rw [show j = 0 by omega] at hy
    cases hy
    rw [ph_ce_a (ph_atN hn.1) (by omega), ← hsz]
    show H1[H.size]? = some (vp_cell _ _)
    have h5 : hR (stN h (kd, y.toNatClampNeg)) n = fun _ => none := funext hn.2.2.2.2.2
    simp only [ph_ar, if_neg (show ¬ kd < 103 by omega), if_neg (show ¬ kd = 103 by omega), h5]
    rw [vp_cell_q]
    exact e1
  have hS1 : va_S (ph_A G) s.heap H1 locs := ⟨Nat.le_trans hS'.1 (by omega), fun x h1 h2 => (o1 x (Nat.lt_of_lt_of_le h1 hS'.1)).trans (hS'.2.1 x h1 h2), hS'.2.2⟩
  have := kk p e R s m args below meth c H1 locs Ls hC ⟨hP1, by simp [stN, hS]; have := hn.1; simp [hS] at this; have := hn.2.1; omega, fun _ => by simp [stN, hS]; have := hn.1; simp [hS] at this; omega⟩ hS1 hL
  simp only [List.map_cons, cv, had, ← hsz] at this
  exact this
theorem wq_thaw (kk : wq G B d k pc ls st u (false, h.2) Q) : wq G B d k pc ls st u h Q := by
  intro p e R s m args below meth c H locs Ls hC hW hS' hL
  exact kk p e R s m args below meth c H locs Ls hC ⟨hW.1, hW.2.1, fun z => by cases z⟩ hS' hL
theorem ph_setR {a kd n i : Nat} {x : Option Nat} (ha : (hS h)[a]? = some (kd, n)) (hk : 104 ≤ kd) : (ph_ws G h).set a (gB G + a, .inl (gA G kd, n, .inr (.inr (.inr (.inr (va_up (fun j => (hR h a j).map (ph_ad G)) i (x.map (ph_ad G)))))))) = ph_ws G (stR h a i x) := by
  have e : ph_ce G (stR h a i x) a = .inl (gA G kd, n, .inr (.inr (.inr (.inr (va_up (fun j => (hR h a j).map (ph_ad G)) i (x.map (ph_ad G))))))) := by
    rw [ph_ce_a (h := stR h a i x) ha (by omega)]
    simp only [ph_ar, if_neg (show ¬ kd < 103 by omega), if_neg (show ¬ kd = 103 by omega), stR, hR, up2_s]
    congr 7
    funext j
    by_cases hj : j = i <;> simp [va_up, hj]
  rw [← e]
  exact ph_set rfl (fun b hb => ph_ceR b hb)
theorem wq_aast {a n kd b ci nb : Nat} {i : Int32} (q : qD k pc .aastore 1 npc) (ha : (hS h)[a]? = some (kd, n)) (hk : (kd = 104 ∧ ci = 5) ∨ (kd = 105 ∧ ci = 6)) (hb : (hS h)[b]? = some (ci, nb)) (hin : vp_in i n)
    (kk : wq G B d k npc ls st u (stR h a i.toNatClampNeg (some b)) Q) : wq G B d k pc ls (.ref b :: .int i :: .ref a :: st) u h Q := by
  intro p e R s m args below meth c H locs Ls hC hW hS' hL
  obtain ⟨q1, rfl⟩ := q
  have hK := hC.2.2.2.2.2.2.2.2.1.1
  have hci : ci < 12 := by rcases hk with ⟨-, rfl⟩ | ⟨-, rfl⟩ <;> omega
  have hkd : 104 ≤ kd := by rcases hk with ⟨rfl, -⟩ | ⟨rfl, -⟩ <;> omega
  have hb1 := ph_ad_lt hW hb
  simp only [List.map_cons, ph_ra hW ha, ph_ra hW hb]
  have hat := ph_aR (G := G) ha hkd
  have hbt := ph_at (G := G) hb
  rw [ph_ce_o hb (by omega)] at hbt
  have hlt : i.toNatClampNeg < n := Nat.not_le.mp fun q => hin (Or.inr q)
  have h0 : ¬ i < 0 := fun q => hin (Or.inl q)
  obtain ⟨r', hr', cellV, g1, g2, g3, -⟩ := hW.1 b _ hbt
  have hcls := (hK.1 ci _ (vw_at hci)).2
  obtain ⟨kA, comp, k1, k2, k3, -⟩ : ∃ (kA : Class) (comp : ClassId), s.vm.classes[gA G kd]? = some kA ∧ kA.kind = .array comp (.object (vC ci)) ∧ s.vm.findClass (vC ci) = some comp ∧ s.vm.findClass ("[" ++ (FieldType.object (vC ci)).toString) = some (gA G kd) := by
    rcases hk with ⟨rfl, rfl⟩ | ⟨rfl, rfl⟩
    · exact (hK.2 4 _ rfl).2
    · exact (hK.2 5 _ rfl).2
  have hcomp : comp = (gD G).1 ci := Option.some.inj (k3.symm.trans hcls.1)
  subst hcomp
  obtain ⟨kC, hkC, -⟩ := hcls.2
  refine W.aast hC.1 hC.2.1 (hW.1 a _ hat) (fun q h => by cases h) (fun h => by cases h) k1 k2 rfl hkC ⟨h0, by show _ < (arrV _ _ _).slots.size; rw [arrV_size]; exact hlt⟩ g1 (fun q h => by rw [g3] at h; cases h) (by rw [g2]; exact hkC) (by rw [g2]; exact va_assign hcls) rfl rfl q1 fun H1 e1 z oq => ?_
  have hP1 : va_P (gD G) vwCl (ph_ws G (stR h a i.toNatClampNeg (some b))) H1 := by
    rw [← ph_setR ha hkd]
    refine hW.1.set (ph_D G h) hat ?_ oq
    show H1[gB G + a]? = some (vp_cell _ _)
    rw [e1]
    rw [vp_cell_q, vp_cell_q, arrV_store]
    congr 2
    funext q
    by_cases hq : q = i.toNatClampNeg
    · subst hq
      simp [updV, va_up, va_rf, hb1]
    · simp [updV, va_up, hq]
  exact kk p e R s m args below meth c H1 _ Ls hC ⟨hP1, hW.2.1, fun y => by rw [z]; exact hW.2.2 y⟩ (hS'.put z oq (by show gB G ≤ gB G + a; omega)) hL
/-- a literal's method is called -/
theorem wq_callT {x wi k' ci ni n ii si j : Nat} {As rest : List Value} (q : qD k pc (.invokevirtual x) 3 npc ∧ inG wi (.methodLink (mN k).cls x (mN k')) ∧ mL k' ≤ 41 ∧ (mN k').cls = "java/lang/String") (hm : mI k' ci ni n ii si) (hst : As.reverse ++ .ref (1000 + (20 + j)) :: rest = st) (hn : As.length = n) (hj : j < 8) (hf : ph_fit B B' u rest)
    (kk : Ct G B' d k' (.ref (1000 + (20 + j)) :: As) h (fun r h' => wq G B (d + 1) k npc ls (r.toList ++ rest) (u.1 + B'.1, u.2 + B'.2) h' Q)) : wq G B (d + 1) k pc ls st u h Q := by
  intro p e R s m args below meth c H locs Ls hC hW hS' hL
  obtain ⟨⟨q1, rfl⟩, hl, hlim, hcls⟩ := q
  subst hst
  have hrecv := vk_recv hC.2.2.2.2.2.2.2.2.1.2.2.2.1.2.2.1 hj hS'
  have hpre := ph_pre hC hW hS' (.ref (1000 + (20 + j)) :: As)
  simp only [List.map_cons, ph_rk] at hpre
  simp only [List.map_append, List.map_cons, List.map_reverse, ph_rk]
  have hfx : CallFix p m c (mC k) (mL k) s args gw (mN k).cls := ⟨hC.1, hC.2.1, hC.2.2.1, hC.2.2.2.1, hC.2.2.2.2.1⟩
  rw [← hcls] at hrecv
  have hcat : 2 * (F0 m pc Ls ((As.map (cv G)).reverse ++ Value.ref (gK G (20 + j)) :: rest.map (cv G))).monitorRoom + ((rest.map (cv G)).map fun v => v.category).sum ≤ 8 := by
    rw [ph_cats]; exact lv_room hf.2.2
  have hroom : u.1 + B'.1 ≤ R.cells ∧ u.2 + B'.2 ≤ R.slots := ⟨Nat.le_trans hf.1 hC.2.2.2.2.2.2.2.2.2.2.2.1, Nat.le_trans hf.2.1 hC.2.2.2.2.2.2.2.2.2.2.2.2⟩
  have hins := hC.2.2.2.2.1 _ (inG_mem hm.2.1)
  have hsel := hC.2.2.2.2.1 _ (inG_mem hm.2.2)
  refine ph_back (rest := rest.map (cv G)) (mc := B'.1) (ms := B'.2) (Q1 := fun r h' => wq G B (d + 1) k (pc + 3) ls (r.toList ++ rest) (u.1 + B'.1, u.2 + B'.2) h' Q) (a := (Value.ref (gK G (20 + j)) :: As.map (cv G)).toArray) ?_ hS' (fun r h1 H1 locs1 hq hw1 hS1 => ?_)
  rotate_left
  · have := hq p e R s m args below meth c H1 locs1 Ls hC hw1 hS1 hL
    rw [List.map_append] at this
    cases r <;> exact this
  · exact va_runV hfx kk ⟨ph_cb hC hm.1 (hC.2.2.2.2.1 _ (inG_mem hl)) hlim, hins, hsel⟩ ⟨ph_blind, hrecv, hpre⟩ rfl (by rw [List.length_map]; exact hn) hL.1 rfl hcat q1 hroom
end MAKE
end
section
/-! ARRAYCOPY OUT OF A CONSTANT ROW OF INTS (the kit's vk_copyt, for ints) -/
section CPT
variable {p : Program} {l : Launch} {e : Env} {R : Room} {s : State} {m : MethodId} {args : Array Value} {below : List Frame} {meth : Method} {c : Code} {H : Heap} {locs : List Loc} {cells slots : Nat} {Q : State → Prop}
variable {cc : ByteArray} {pc : Nat} {ls : Array Slot} {rest : List Value} {D : va_G} {cl : List vw_C} {A : Nat → Prop} {a : Nat} {tys : List (ClassId × FieldType)} {ws : va_W} {H0 : Heap}
theorem ph_copyt (hexec : p.tables.exec = Jvm.exec) (hb : c.code = cc) (hml : c.maxLocals = ls.size) {own : String} {index : Nat} (hown : s.vm.findClass own = some m.cls) (hlink : (Cond.methodLink own index arraycopyName).before args s = true) (hnat : (Cond.native arraycopyName).before args s = true) (hstat : (Cond.static arraycopyName).before args s = true) (hini : (Cond.initialized "java/lang/System").before args s = true)
    (hK : va_K D cl tys s) (hP : va_P D cl ws H) (hD : va_D A ws) (hS : va_S A s.heap H locs) {b0 n0 : Nat} {f : Nat → Int32} (hX : va_T .int b0 n0 (fun j => .int (f j)) A s s.heap) (q1 t1 : Nat) {c1 : ClassId} {n1 : Nat} {g : Nat → Int32} (ha1 : ws[q1]? = some (a, .inl (c1, n1, .inl g))) (ht1 : tys[t1]? = some (c1, .int))
    {sp dp n : Int32} (h1 : ¬ sp < 0) (h2 : ¬ dp < 0) (h3 : ¬ n < 0) (h4 : sp.toNatClampNeg + n.toNatClampNeg ≤ n0) (h5 : dp.toNatClampNeg + n.toNatClampNeg ≤ n1) (hfit : ∀ i : Nat, i < n.toNatClampNeg → fits .int (.int (f (sp.toNatClampNeg + i))) = true)
    (hframes : 1 ≤ R.frames) (hlocals : (rest.map fun v => v.category).sum + (nativeFrameWords "java/lang/System" "arraycopy" 5 + 11) ≤ R.locals) (hdg : decode cc pc = .ok (.invokestatic index, 3))
    (kk : ∀ (H1 : Heap) (locs1 : List Loc), va_P D cl (ws.set q1 (a, .inl (c1, n1, .inl (va_cpy f g sp.toNatClampNeg dp.toNatClampNeg n.toNatClampNeg)))) H1 → va_D A (ws.set q1 (a, .inl (c1, n1, .inl (va_cpy f g sp.toNatClampNeg dp.toNatClampNeg n.toNatClampNeg)))) → va_S A s.heap H1 locs1 → W p l e R s m args below meth c H1 locs1 cells slots Q (F0 m (pc + 3) ls rest)) : W p l e R s m args below meth c H locs cells slots Q (F0 m pc ls (.int n :: .int dp :: .ref a :: .int sp :: .ref b0 :: rest)) := by
  have nn : ∀ z : Int32, ¬ z < 0 → z.toInt = (z.toNatClampNeg : Int) := by
    intro z hz
    have hz0 : (0 : Int) ≤ z.toInt := by
      have := Int32.not_lt.mp hz
      simpa using Int32.le_iff_toInt_le.mp this
    show z.toInt = ((z.toInt.toNat : Nat) : Int)
    omega
  intro T hT X
  obtain ⟨scr, hs1, hs2, hs3, hs4, -, hs5, hs7⟩ := hX
  have hc0 : H[b0]? = some scr := by rw [hS.2.1 b0 (Array.getElem?_eq_some_iff.mp hs1).1 hs7]; exact hs1
  have hc1 : H[a]? = some (vp_cell c1 (n1, .inl g)) := hP q1 _ ha1
  obtain ⟨hs6, k0, hk0, cm0, hkk0⟩ := hs2
  obtain ⟨-, k1, hk1, cm1, hkk1⟩ := (hK.2 t1 _ ht1).1 n1 (fun j => .int (g j))
  obtain ⟨vm', X', step⟩ := X.arraycopy hexec hown hlink hnat hstat hini (src := b0) (dst := a) (cs := scr) (cd := vp_cell c1 (n1, .inl g)) (srcPos := sp) (destPos := dp) (n := n) (by rw [hT]; exact hc0) (by rw [hT]; exact hc1)
    hs6 (fun _ h => by cases h) hs3 (fun h => by cases h) hk0 hk1 hkk0 hkk1 (by simp [refKind]) h1 h2 h3
    (by rw [nn sp h1, nn n h3]; omega)
    (by rw [nn dp h2, nn n h3]; show ¬ _ > ((arrV c1 n1 (fun j => .int (g j))).slots.size : Int); rw [arrV_size]; omega)
    (fun vm₁ _ i hi => by
      have e : scr.slots.getD (sp.toNatClampNeg + i) .null = .int (f (sp.toNatClampNeg + i)) := by
        rw [Array.getD_eq_getD_getElem?, hs5 _ (by omega)]
        rfl
      refine ⟨?_, ?_⟩
      · rw [e]
        exact hfit i hi
      · rw [e]
        exact trivial)
    (g := F0 m pc ls (.int n :: .int dp :: .ref a :: .int sp :: .ref b0 :: rest)) rfl (by rw [hml]) (rest := rest) rfl (by rw [hb]; exact hdg) hframes (by show 2 * 0 + _ + _ ≤ _; omega)
  have e1 : copied scr (vp_cell c1 (n1, .inl g)) sp dp n = vp_cell c1 (n1, .inl (va_cpy f g sp.toNatClampNeg dp.toNatClampNeg n.toNatClampNeg)) := va_copiedX (fun z => .int z) scr c1 f g hs5 h4
  rw [e1] at X' step
  have hl : a < H.size := (Array.getElem?_eq_some_iff.mp hc1).1
  have hheap : ((T.setVm vm').setCell a (vp_cell c1 (n1, .inl (va_cpy f g sp.toNatClampNeg dp.toNatClampNeg n.toNatClampNeg)))).heap = H.setIfInBounds a (vp_cell c1 (n1, .inl (va_cpy f g sp.toNatClampNeg dp.toNatClampNeg n.toNatClampNeg))) := by rw [← hT]; rfl
  have oq : ∀ q : Nat, q ≠ a → (H.setIfInBounds a (vp_cell c1 (n1, .inl (va_cpy f g sp.toNatClampNeg dp.toNatClampNeg n.toNatClampNeg))))[q]? = H[q]? := fun q hq => by simp [Array.getElem?_setIfInBounds, Ne.symm hq]
  obtain ⟨t, a1, b1⟩ := kk _ _ (hP.set hD ha1 (show (H.setIfInBounds a _)[a]? = some _ by simp [Array.getElem?_setIfInBounds, hl]) oq) (hD.set ha1) ⟨by simp; exact hS.1, fun q g1 g2 => by
      rw [oq q (fun e => g2 (by rw [e]; exact hD.2 q1 _ ha1))]
      exact hS.2.1 q g1 g2, fun q hq => by
      rcases List.mem_append.mp hq with h | h
      · exact hS.2.2 q h
      · obtain ⟨z, -, hz⟩ := List.mem_map.mp h
        rw [← hz]
        exact hD.2 q1 _ ha1⟩ _ hheap X'
  exact ⟨t, step t a1, b1⟩
end CPT
section CPW
variable {G : ph_G} {B : Nat × Nat} {d k pc npc : Nat} {ls ls' : List (Option Value)} {st : List Value} {u : Nat × Nat} {h : ph_H} {Q : Option Value → ph_H → Prop}
theorem wq_copyC {xi wi j a n1 : Nat} {sp dp n : Int32} {cq : String × List Int32} (q : qD k pc (.invokestatic xi) 3 npc ∧ inG wi (.methodLink (mN k).cls xi arraycopyName)) (hc : cS[j]? = some cq) (ha : (hS h)[a]? = some (100, n1)) (h1 : ¬ sp < 0) (h2 : ¬ dp < 0) (h3 : ¬ n < 0) (h4 : sp.toNatClampNeg + n.toNatClampNeg ≤ cq.2.length) (h5 : dp.toNatClampNeg + n.toNatClampNeg ≤ n1) (hfr : h.1 = false) (hf : ph_fit0 B u st)
    (kk : wq G B (d + 1) k npc ls st u (stC h a (va_cpy (fun j => cq.2.getD j 0) (hI h a) sp.toNatClampNeg dp.toNatClampNeg n.toNatClampNeg)) Q) : wq G B (d + 1) k pc ls (.int n :: .int dp :: .ref a :: .int sp :: .ref (1000 + j) :: st) u h Q := by
  intro p e R s m args below meth c H locs Ls hC hW hS' hL
  obtain ⟨⟨q1, rfl⟩, q2⟩ := q
  have hts := hC.2.2.2.2.1
  have hR := hC.2.2.2.2.2.2.2.2.2
  have hnf := nfw
  simp only [List.map_cons, ph_ra hW ha, ph_rk]
  refine ph_copyt hC.1 hC.2.1 (hC.2.2.1.trans hL.1.symm) hC.2.2.2.1 (hts _ (inG_mem q2)) (hts _ (inG_mem mw_copy.1)) (hts _ (inG_mem mw_copy.2.1)) (hts _ (inG_mem mw_copy.2.2)) hC.2.2.2.2.2.2.2.2.1.1 hW.1 (ph_D G h) hS' (hC.2.2.2.2.2.2.2.2.1.2.2.2.1.1 j cq hc).2 a 0 (ph_aI ha (by omega) (by omega)) rfl h1 h2 h3 h4 h5 (fun _ _ => rfl) (by omega) (by rw [ph_cats]; omega) q1 (fun H1 locs1 hP1 _ hS1 => ?_)
  have hP2 : va_P (gD G) vwCl (ph_ws G (stC h a (va_cpy (fun j => cq.2.getD j 0) (hI h a) sp.toNatClampNeg dp.toNatClampNeg n.toNatClampNeg))) H1 := by
    rw [← ph_setC ha]; exact hP1
  exact kk p e R s m args below meth c H1 locs1 Ls hC ⟨hP2, hW.2.1, fun z => by rw [show (stC h a (va_cpy (fun j => cq.2.getD j 0) (hI h a) sp.toNatClampNeg dp.toNatClampNeg n.toNatClampNeg)).1 = h.1 from rfl, hfr] at z; cases z⟩ hS1 hL
end CPW
end
section
/-! SHORT FORMS: nothing is made -/
def ph_k (r : Option Value) (rest : List Value) : List Value := match r with
  | some v => v :: rest
  | none => rest
theorem ph_k_eq (r : Option Value) (rest : List Value) : r.toList ++ rest = ph_k r rest := by cases r <;> rfl
section SHORT
variable {G : ph_G} {d k pc npc : Nat} {ls ls' : List (Option Value)} {st : List Value} {h : ph_H} {Q : Option Value → ph_H → Prop}
theorem cV {x wi k' ci ni n ii si b cb nb : Nat} {As rest : List Value} (q : qD k pc (.invokevirtual x) 3 npc ∧ qI k x k' wi) (hm : mI k' ci ni n ii si) (hst : As.reverse ++ .ref b :: rest = st) (hn : As.length = n) (hb : (hS h)[b]? = some (cb, nb)) (hcb : cb < 12 ∧ vC cb = (mN k').cls) (hf : ((rest.map (fun v : Value => v.category)).sum).ble 8 = true)
    (kk : Ct G (0, 0) d k' (.ref b :: As) h (fun r h' => wq G (0, 0) (d + 1) k npc ls (ph_k r rest) (0, 0) h' Q)) : wq G (0, 0) (d + 1) k pc ls st (0, 0) h Q := by
  refine wq_callV (B' := (0, 0)) (As := As) (rest := rest) q hm hst hn hb hcb ⟨Nat.le.refl, Nat.le.refl, Nat.le_of_ble_eq_true hf⟩ ?_
  simp only [ph_k_eq]
  exact kk
theorem cS' {x wi k' ci ni n ii : Nat} {As rest : List Value} (q : qD k pc (.invokestatic x) 3 npc ∧ qI k x k' wi) (hm : mS k' ci ni n ii) (hst : As.reverse ++ rest = st) (hn : As.length = n) (hf : ((rest.map (fun v : Value => v.category)).sum).ble 8 = true)
    (kk : Ct G (0, 0) d k' As h (fun r h' => wq G (0, 0) (d + 1) k npc ls (ph_k r rest) (0, 0) h' Q)) : wq G (0, 0) (d + 1) k pc ls st (0, 0) h Q := by
  refine wq_callS (B' := (0, 0)) (As := As) (rest := rest) q hm hst hn ⟨Nat.le.refl, Nat.le.refl, Nat.le_of_ble_eq_true hf⟩ ?_
  simp only [ph_k_eq]
  exact kk
theorem cT {x wi k' ci ni n ii si j : Nat} {As rest : List Value} (q : qD k pc (.invokevirtual x) 3 npc ∧ inG wi (.methodLink (mN k).cls x (mN k')) ∧ mL k' ≤ 41 ∧ (mN k').cls = "java/lang/String") (hm : mI k' ci ni n ii si) (hst : As.reverse ++ .ref (1000 + (20 + j)) :: rest = st) (hn : As.length = n) (hj : j < 8) (hf : ((rest.map (fun v : Value => v.category)).sum).ble 8 = true)
    (kk : Ct G (0, 0) d k' (.ref (1000 + (20 + j)) :: As) h (fun r h' => wq G (0, 0) (d + 1) k npc ls (ph_k r rest) (0, 0) h' Q)) : wq G (0, 0) (d + 1) k pc ls st (0, 0) h Q := by
  refine wq_callT (B' := (0, 0)) (As := As) (rest := rest) q hm hst hn hj ⟨Nat.le.refl, Nat.le.refl, Nat.le_of_ble_eq_true hf⟩ ?_
  simp only [ph_k_eq]
  exact kk
theorem rI {x : Int32} {ty : FieldType} (q : qD k pc .ireturn 1 npc ∧ mR k = some ty) (hn : narrow ty (.int x) = .int x) (hQ : Q (some (.int x)) h) : wq G (0, 0) d k pc ls [.int x] (0, 0) h Q := wq_iret q hn ⟨Nat.le.refl, Nat.le.refl⟩ hQ
theorem rL {x : Int64} (q : qD k pc .lreturn 1 npc ∧ mR k = some .long) (hQ : Q (some (.long x)) h) : wq G (0, 0) d k pc ls [.long x] (0, 0) h Q := wq_lret q ⟨Nat.le.refl, Nat.le.refl⟩ hQ
theorem rV (q : qD k pc .return_ 1 npc ∧ mR k = none) (hQ : Q none h) : wq G (0, 0) d k pc ls [] (0, 0) h Q := wq_vret q ⟨Nat.le.refl, Nat.le.refl⟩ hQ
theorem rN {C : String} (q : qD k pc .areturn 1 npc ∧ mR k = some (.object C)) (hQ : Q (some .null) h) : wq G (0, 0) d k pc ls [.null] (0, 0) h Q := wq_aret q (Or.inl rfl) ⟨Nat.le.refl, Nat.le.refl⟩ hQ
theorem rR {C : String} {a : Nat} (q : qD k pc .areturn 1 npc ∧ mR k = some (.object C)) (hQ : Q (some (.ref a)) h) : wq G (0, 0) d k pc ls [.ref a] (0, 0) h Q := wq_aret q (Or.inr ⟨_, rfl⟩) ⟨Nat.le.refl, Nat.le.refl⟩ hQ
variable {B u : Nat × Nat}
theorem nI_in' {j n : Nat} (hj : j < n) (hn : n < 2 ^ 31) : vp_in (nI j) n := vp_in_nI hj hn
/-- arrays by a number that is no Int32 -/
theorem aI {a n j : Nat} {i : Int32} (q : qD k pc .iaload 1 npc) (ha : (hS h)[a]? = some (100, n)) (e : i = nI j) (hj : j < n) (hn : n < 2 ^ 31) (kk : wq G B d k npc ls (.int (hI h a j) :: st) u h Q) : wq G B d k pc ls (.int i :: .ref a :: st) u h Q := by
  subst e
  refine wq_iald q ha (vp_in_nI hj hn) ?_
  rw [nI_clamp (by omega)]
  exact kk
theorem aB {a n j : Nat} {i : Int32} (q : qD k pc .baload 1 npc) (ha : (hS h)[a]? = some (101, n)) (e : i = nI j) (hj : j < n) (hn : n < 2 ^ 31) (kk : wq G B d k npc ls (.int (hI h a j) :: st) u h Q) : wq G B d k pc ls (.int i :: .ref a :: st) u h Q := by
  subst e
  refine wq_bald q ha (vp_in_nI hj hn) ?_
  rw [nI_clamp (by omega)]
  exact kk
theorem aZ {a n j : Nat} {i : Int32} (q : qD k pc .baload 1 npc) (ha : (hS h)[a]? = some (102, n)) (e : i = nI j) (hj : j < n) (hn : n < 2 ^ 31) (kk : wq G B d k npc ls (.int (hI h a j) :: st) u h Q) : wq G B d k pc ls (.int i :: .ref a :: st) u h Q := by
  subst e
  refine wq_zald q ha (vp_in_nI hj hn) ?_
  rw [nI_clamp (by omega)]
  exact kk
theorem aA {a n kd b j : Nat} {i : Int32} (q : qD k pc .aaload 1 npc) (ha : (hS h)[a]? = some (kd, n)) (hk : kd = 104 ∨ kd = 105) (e : i = nI j) (hj : j < n) (hn : n < 2 ^ 31) (hb : hR h a j = some b) (kk : wq G B d k npc ls (.ref b :: st) u h Q) : wq G B d k pc ls (.int i :: .ref a :: st) u h Q := by
  subst e
  refine wq_aald q ha hk (vp_in_nI hj hn) ?_ kk
  rw [nI_clamp (by omega)]
  exact hb
theorem aC {j' : Nat} {j : Nat} {i : Int32} {cq : String × List Int32} (q : qD k pc .iaload 1 npc) (hc : cS[j']? = some cq) (e : i = nI j) (hj : j < cq.2.length) (hn : cq.2.length < 2 ^ 31) (kk : wq G B d k npc ls (.int (cq.2.getD j 0) :: st) u h Q) : wq G B d k pc ls (.int i :: .ref (1000 + j') :: st) u h Q := by
  subst e
  refine wq_ialdC q hc (vp_in_nI hj hn) ?_
  rw [nI_clamp (by omega)]
  exact kk
theorem sI {a n j : Nat} {i x : Int32} (q : qD k pc .iastore 1 npc) (ha : (hS h)[a]? = some (100, n)) (e : i = nI j) (hj : j < n) (hn : n < 2 ^ 31) (hfr : h.1 = false) (kk : wq G B d k npc ls st u (stI h a j x) Q) : wq G B d k pc ls (.int x :: .int i :: .ref a :: st) u h Q := by
  subst e
  refine wq_iast q ha (vp_in_nI hj hn) hfr ?_
  rw [nI_clamp (by omega)]
  exact kk
theorem sB {a n j : Nat} {i x : Int32} (q : qD k pc .bastore 1 npc) (ha : (hS h)[a]? = some (101, n)) (e : i = nI j) (hj : j < n) (hn : n < 2 ^ 31) (hfr : h.1 = false) (kk : wq G B d k npc ls st u (stI h a j (vp_nar .byte x)) Q) : wq G B d k pc ls (.int x :: .int i :: .ref a :: st) u h Q := by
  subst e
  refine wq_bast q ha (vp_in_nI hj hn) hfr ?_
  rw [nI_clamp (by omega)]
  exact kk
theorem sZ {a n j : Nat} {i x : Int32} (q : qD k pc .bastore 1 npc) (ha : (hS h)[a]? = some (102, n)) (e : i = nI j) (hj : j < n) (hn : n < 2 ^ 31) (hfr : h.1 = false) (kk : wq G B d k npc ls st u (stI h a j (vp_nar .boolean x)) Q) : wq G B d k pc ls (.int x :: .int i :: .ref a :: st) u h Q := by
  subst e
  refine wq_zast q ha (vp_in_nI hj hn) hfr ?_
  rw [nI_clamp (by omega)]
  exact kk
end SHORT
/-! THE SHAPE of the two systems, once they are made -/
def shT : List (Nat × Nat) := [(10, 20), (8, 4), (100, 240), (3, 6), (100, 4), (100, 35), (100, 12), (3, 6), (100, 4), (100, 35), (100, 12), (104, 5), (105, 5), (5, 3), (100, 241), (100, 32), (6, 2), (100, 48), (5, 3), (100, 241), (100, 32), (6, 2), (100, 48), (5, 3), (100, 241), (100, 32), (6, 2), (100, 48), (5, 3), (100, 241), (100, 32), (6, 2), (100, 48), (5, 3), (100, 241), (100, 32), (6, 2), (100, 48), (7, 1), (100, 33), (7, 1), (100, 33), (7, 1), (100, 33), (2, 1), (100, 300), (2, 1), (100, 300), (0, 3), (100, 1320), (4, 3), (100, 7), (100, 7), (100, 6), (9, 3), (100, 7), (100, 7), (1, 3), (11, 48), (101, 240), (101, 960), (100, 4), (100, 128), (100, 4), (100, 4), (100, 35), (100, 35), (100, 12), (100, 12), (100, 240), (100, 5), (100, 214), (100, 214), (100, 7), (100, 8560), (100, 16), (100, 16), (102, 16), (100, 214), (103, 1)]
/-- the references: f the fort, dr the draft, t the text that the reference reads -/
def refT (f dr t : Nat) : List (List (Option Nat)) := [[some 1, some f, some dr, some 11, none, none, some 12, none, none, some 38, some 40, some 42, none, some 44, some 46, some 48, some 50, some 54, some 57], [some 2], [], [some 4, some 5, some 6], [], [], [], [some 8, some 9, some 10], [], [], [], [some 13, some 18, some 23, some 28, some 33], [some 16, some 21, some 26, some 31, some 36],
  [some 14, some 15], [], [], [some 17], [], [some 19, some 20], [], [], [some 22], [], [some 24, some 25], [], [], [some 27], [], [some 29, some 30], [], [], [some 32], [], [some 34, some 35], [], [], [some 37], [],
  [some 39], [], [some 41], [], [some 43], [], [some 45], [], [some 47], [], [some 49], [], [some 51, some 52, some 53], [], [], [], [some 55, some 56], [], [], [],
  [none, some 59, some 60, some 61, some 62, some t, none, none, none, none, none, none, none, none, none, some 1025, some 1023, none, some 63, some 64, some 65, some 66, some 67, some 68, some 69, some 70, none, none, none, none, none, none, some 71, some 72, none, none, some 73, some 74, none, none, none, none, some 75, some 76, some 77, none, some 78]]
def HR (f dr t a s : Nat) : Option Nat := ((refT f dr t).getD a []).getD s none
/-- a heap of the two systems -/
def HP (hi : Nat → Nat → Int32) (hl : Nat → Nat → Int64) (f dr t : Nat) : ph_H := (false, shT, hi, hl, HR f dr t)
end
section
set_option maxRecDepth 100000 in
theorem m_0 : mU 0 258 118 0 257 := ⟨⟨⟨rfl, rfl⟩, by decide +kernel⟩, by decide +kernel⟩
set_option maxRecDepth 100000 in
theorem m_1 : mI 1 681 118 0 679 680 := ⟨⟨⟨rfl, rfl⟩, by decide +kernel⟩, by decide +kernel⟩
set_option maxRecDepth 100000 in
theorem m_2 : mI 2 793 118 1 791 792 := ⟨⟨⟨rfl, rfl⟩, by decide +kernel⟩, by decide +kernel⟩
set_option maxRecDepth 100000 in
theorem m_3 : mI 3 952 118 1 950 951 := ⟨⟨⟨rfl, rfl⟩, by decide +kernel⟩, by decide +kernel⟩
set_option maxRecDepth 100000 in
theorem m_4 : mU 4 310 121 0 309 := ⟨⟨⟨rfl, rfl⟩, by decide +kernel⟩, by decide +kernel⟩
set_option maxRecDepth 100000 in
theorem m_5 : mI 5 690 121 0 688 689 := ⟨⟨⟨rfl, rfl⟩, by decide +kernel⟩, by decide +kernel⟩
set_option maxRecDepth 100000 in
theorem m_6 : mI 6 1079 121 1 1077 1078 := ⟨⟨⟨rfl, rfl⟩, by decide +kernel⟩, by decide +kernel⟩
set_option maxRecDepth 100000 in
theorem m_7 : mI 7 1084 121 5 1083 41 := ⟨⟨⟨rfl, rfl⟩, by decide +kernel⟩, by decide +kernel⟩
set_option maxRecDepth 100000 in
theorem m_8 : mU 8 248 117 0 247 := ⟨⟨⟨rfl, rfl⟩, by decide +kernel⟩, by decide +kernel⟩
set_option maxRecDepth 100000 in
theorem m_9 : mI 9 799 117 1 797 798 := ⟨⟨⟨rfl, rfl⟩, by decide +kernel⟩, by decide +kernel⟩
set_option maxRecDepth 100000 in
theorem m_10 : mI 10 751 117 2 749 750 := ⟨⟨⟨rfl, rfl⟩, by decide +kernel⟩, by decide +kernel⟩
set_option maxRecDepth 100000 in
theorem m_11 : mI 11 965 117 1 963 964 := ⟨⟨⟨rfl, rfl⟩, by decide +kernel⟩, by decide +kernel⟩
set_option maxRecDepth 100000 in
theorem m_12 : mU 12 170 113 0 169 := ⟨⟨⟨rfl, rfl⟩, by decide +kernel⟩, by decide +kernel⟩
set_option maxRecDepth 100000 in
theorem m_13 : mI 13 418 113 1 416 417 := ⟨⟨⟨rfl, rfl⟩, by decide +kernel⟩, by decide +kernel⟩
set_option maxRecDepth 100000 in
theorem m_14 : mI 14 427 113 1 426 1 := ⟨⟨⟨rfl, rfl⟩, by decide +kernel⟩, by decide +kernel⟩
set_option maxRecDepth 100000 in
theorem m_15 : mI 15 448 113 6 447 3 := ⟨⟨⟨rfl, rfl⟩, by decide +kernel⟩, by decide +kernel⟩
set_option maxRecDepth 100000 in
theorem m_16 : mI 16 582 113 0 580 581 := ⟨⟨⟨rfl, rfl⟩, by decide +kernel⟩, by decide +kernel⟩
set_option maxRecDepth 100000 in
theorem m_17 : mI 17 840 113 0 838 839 := ⟨⟨⟨rfl, rfl⟩, by decide +kernel⟩, by decide +kernel⟩
set_option maxRecDepth 100000 in
theorem m_18 : mI 18 785 113 0 783 784 := ⟨⟨⟨rfl, rfl⟩, by decide +kernel⟩, by decide +kernel⟩
set_option maxRecDepth 100000 in
theorem m_19 : mI 19 819 113 0 817 818 := ⟨⟨⟨rfl, rfl⟩, by decide +kernel⟩, by decide +kernel⟩
set_option maxRecDepth 100000 in
theorem m_20 : mI 20 710 113 1 708 709 := ⟨⟨⟨rfl, rfl⟩, by decide +kernel⟩, by decide +kernel⟩
set_option maxRecDepth 100000 in
theorem m_21 : mI 21 844 113 1 842 843 := ⟨⟨⟨rfl, rfl⟩, by decide +kernel⟩, by decide +kernel⟩
set_option maxRecDepth 100000 in
theorem m_22 : mI 22 1176 113 1 1174 1175 := ⟨⟨⟨rfl, rfl⟩, by decide +kernel⟩, by decide +kernel⟩
set_option maxRecDepth 100000 in
theorem m_23 : mI 23 830 113 1 828 829 := ⟨⟨⟨rfl, rfl⟩, by decide +kernel⟩, by decide +kernel⟩
set_option maxRecDepth 100000 in
theorem m_24 : mI 24 677 113 1 675 676 := ⟨⟨⟨rfl, rfl⟩, by decide +kernel⟩, by decide +kernel⟩
set_option maxRecDepth 100000 in
theorem m_25 : mI 25 722 113 1 720 721 := ⟨⟨⟨rfl, rfl⟩, by decide +kernel⟩, by decide +kernel⟩
set_option maxRecDepth 100000 in
theorem m_26 : mI 26 726 113 1 724 725 := ⟨⟨⟨rfl, rfl⟩, by decide +kernel⟩, by decide +kernel⟩
set_option maxRecDepth 100000 in
theorem m_27 : mU 27 275 119 0 274 := ⟨⟨⟨rfl, rfl⟩, by decide +kernel⟩, by decide +kernel⟩
set_option maxRecDepth 100000 in
theorem m_28 : mI 28 835 119 5 833 834 := ⟨⟨⟨rfl, rfl⟩, by decide +kernel⟩, by decide +kernel⟩
set_option maxRecDepth 100000 in
theorem m_29 : mI 29 849 119 4 848 25 := ⟨⟨⟨rfl, rfl⟩, by decide +kernel⟩, by decide +kernel⟩
set_option maxRecDepth 100000 in
theorem m_30 : mI 30 878 119 3 876 877 := ⟨⟨⟨rfl, rfl⟩, by decide +kernel⟩, by decide +kernel⟩
set_option maxRecDepth 100000 in
theorem m_31 : mI 31 823 119 5 821 822 := ⟨⟨⟨rfl, rfl⟩, by decide +kernel⟩, by decide +kernel⟩
set_option maxRecDepth 100000 in
theorem m_32 : mI 32 882 119 5 881 28 := ⟨⟨⟨rfl, rfl⟩, by decide +kernel⟩, by decide +kernel⟩
set_option maxRecDepth 100000 in
theorem m_33 : mU 33 205 114 0 204 := ⟨⟨⟨rfl, rfl⟩, by decide +kernel⟩, by decide +kernel⟩
set_option maxRecDepth 100000 in
theorem m_34 : mI 34 586 114 1 584 585 := ⟨⟨⟨rfl, rfl⟩, by decide +kernel⟩, by decide +kernel⟩
set_option maxRecDepth 100000 in
theorem m_35 : mI 35 590 114 1 589 5 := ⟨⟨⟨rfl, rfl⟩, by decide +kernel⟩, by decide +kernel⟩
set_option maxRecDepth 100000 in
theorem m_36 : mI 36 629 114 3 628 10 := ⟨⟨⟨rfl, rfl⟩, by decide +kernel⟩, by decide +kernel⟩
set_option maxRecDepth 100000 in
theorem m_37 : mI 37 633 114 3 632 11 := ⟨⟨⟨rfl, rfl⟩, by decide +kernel⟩, by decide +kernel⟩
set_option maxRecDepth 100000 in
theorem m_38 : mI 38 637 114 3 636 12 := ⟨⟨⟨rfl, rfl⟩, by decide +kernel⟩, by decide +kernel⟩
set_option maxRecDepth 100000 in
theorem m_39 : mI 39 600 114 2 599 6 := ⟨⟨⟨rfl, rfl⟩, by decide +kernel⟩, by decide +kernel⟩
set_option maxRecDepth 100000 in
theorem m_40 : mI 40 604 114 2 603 7 := ⟨⟨⟨rfl, rfl⟩, by decide +kernel⟩, by decide +kernel⟩
set_option maxRecDepth 100000 in
theorem m_41 : mI 41 608 114 2 607 8 := ⟨⟨⟨rfl, rfl⟩, by decide +kernel⟩, by decide +kernel⟩
set_option maxRecDepth 100000 in
theorem m_42 : mS 42 622 114 2 621 := ⟨⟨⟨rfl, rfl⟩, by decide +kernel⟩, by decide +kernel⟩
set_option maxRecDepth 100000 in
theorem m_43 : mS 43 625 114 1 624 := ⟨⟨⟨rfl, rfl⟩, by decide +kernel⟩, by decide +kernel⟩
set_option maxRecDepth 100000 in
theorem m_44 : mI 44 617 114 1 616 9 := ⟨⟨⟨rfl, rfl⟩, by decide +kernel⟩, by decide +kernel⟩
set_option maxRecDepth 100000 in
theorem m_45 : mI 45 853 114 1 851 852 := ⟨⟨⟨rfl, rfl⟩, by decide +kernel⟩, by decide +kernel⟩
set_option maxRecDepth 100000 in
theorem m_46 : mI 46 857 114 2 856 26 := ⟨⟨⟨rfl, rfl⟩, by decide +kernel⟩, by decide +kernel⟩
set_option maxRecDepth 100000 in
theorem m_47 : mI 47 861 114 1 860 27 := ⟨⟨⟨rfl, rfl⟩, by decide +kernel⟩, by decide +kernel⟩
set_option maxRecDepth 100000 in
theorem m_48 : mS 48 864 114 3 863 := ⟨⟨⟨rfl, rfl⟩, by decide +kernel⟩, by decide +kernel⟩
set_option maxRecDepth 100000 in
theorem m_49 : mU 49 220 115 0 219 := ⟨⟨⟨rfl, rfl⟩, by decide +kernel⟩, by decide +kernel⟩
set_option maxRecDepth 100000 in
theorem m_50 : mI 50 643 115 1 641 642 := ⟨⟨⟨rfl, rfl⟩, by decide +kernel⟩, by decide +kernel⟩
set_option maxRecDepth 100000 in
theorem m_51 : mI 51 647 115 2 646 13 := ⟨⟨⟨rfl, rfl⟩, by decide +kernel⟩, by decide +kernel⟩
set_option maxRecDepth 100000 in
theorem m_52 : mI 52 982 115 2 980 981 := ⟨⟨⟨rfl, rfl⟩, by decide +kernel⟩, by decide +kernel⟩
set_option maxRecDepth 100000 in
theorem m_53 : mU 53 234 116 0 233 := ⟨⟨⟨rfl, rfl⟩, by decide +kernel⟩, by decide +kernel⟩
set_option maxRecDepth 100000 in
theorem m_54 : mI 54 670 116 1 668 669 := ⟨⟨⟨rfl, rfl⟩, by decide +kernel⟩, by decide +kernel⟩
set_option maxRecDepth 100000 in
theorem m_55 : mI 55 960 116 1 958 959 := ⟨⟨⟨rfl, rfl⟩, by decide +kernel⟩, by decide +kernel⟩
set_option maxRecDepth 100000 in
theorem m_56 : mI 56 730 116 1 728 729 := ⟨⟨⟨rfl, rfl⟩, by decide +kernel⟩, by decide +kernel⟩
set_option maxRecDepth 100000 in
theorem m_57 : mI 57 811 116 2 809 810 := ⟨⟨⟨rfl, rfl⟩, by decide +kernel⟩, by decide +kernel⟩
set_option maxRecDepth 100000 in
theorem m_58 : mI 58 807 116 3 805 806 := ⟨⟨⟨rfl, rfl⟩, by decide +kernel⟩, by decide +kernel⟩
set_option maxRecDepth 100000 in
theorem m_59 : mI 59 789 116 1 787 788 := ⟨⟨⟨rfl, rfl⟩, by decide +kernel⟩, by decide +kernel⟩
set_option maxRecDepth 100000 in
theorem m_60 : mI 60 764 116 1 762 763 := ⟨⟨⟨rfl, rfl⟩, by decide +kernel⟩, by decide +kernel⟩
set_option maxRecDepth 100000 in
theorem m_61 : mI 61 886 116 3 884 885 := ⟨⟨⟨rfl, rfl⟩, by decide +kernel⟩, by decide +kernel⟩
set_option maxRecDepth 100000 in
theorem m_62 : mI 62 896 116 3 894 895 := ⟨⟨⟨rfl, rfl⟩, by decide +kernel⟩, by decide +kernel⟩
set_option maxRecDepth 100000 in
theorem m_63 : mI 63 900 116 0 898 899 := ⟨⟨⟨rfl, rfl⟩, by decide +kernel⟩, by decide +kernel⟩
set_option maxRecDepth 100000 in
theorem m_64 : mU 64 148 112 0 147 := ⟨⟨⟨rfl, rfl⟩, by decide +kernel⟩, by decide +kernel⟩
set_option maxRecDepth 100000 in
theorem m_65 : mS 65 391 112 1 390 := ⟨⟨⟨rfl, rfl⟩, by decide +kernel⟩, by decide +kernel⟩
set_option maxRecDepth 100000 in
theorem m_66 : mI 66 395 112 1 393 394 := ⟨⟨⟨rfl, rfl⟩, by decide +kernel⟩, by decide +kernel⟩
set_option maxRecDepth 100000 in
theorem m_67 : mI 67 414 112 0 412 413 := ⟨⟨⟨rfl, rfl⟩, by decide +kernel⟩, by decide +kernel⟩
set_option maxRecDepth 100000 in
theorem m_68 : mI 68 435 112 0 434 2 := ⟨⟨⟨rfl, rfl⟩, by decide +kernel⟩, by decide +kernel⟩
set_option maxRecDepth 100000 in
theorem m_69 : mI 69 431 112 0 429 430 := ⟨⟨⟨rfl, rfl⟩, by decide +kernel⟩, by decide +kernel⟩
set_option maxRecDepth 100000 in
theorem m_70 : mI 70 439 112 0 437 438 := ⟨⟨⟨rfl, rfl⟩, by decide +kernel⟩, by decide +kernel⟩
set_option maxRecDepth 100000 in
theorem m_71 : mI 71 574 112 1 572 573 := ⟨⟨⟨rfl, rfl⟩, by decide +kernel⟩, by decide +kernel⟩
set_option maxRecDepth 100000 in
theorem m_72 : mI 72 594 112 1 592 593 := ⟨⟨⟨rfl, rfl⟩, by decide +kernel⟩, by decide +kernel⟩
set_option maxRecDepth 100000 in
theorem m_73 : mI 73 578 112 0 576 577 := ⟨⟨⟨rfl, rfl⟩, by decide +kernel⟩, by decide +kernel⟩
set_option maxRecDepth 100000 in
theorem m_74 : mI 74 544 112 0 542 543 := ⟨⟨⟨rfl, rfl⟩, by decide +kernel⟩, by decide +kernel⟩
set_option maxRecDepth 100000 in
theorem m_75 : mI 75 548 112 1 547 4 := ⟨⟨⟨rfl, rfl⟩, by decide +kernel⟩, by decide +kernel⟩
set_option maxRecDepth 100000 in
theorem m_76 : mI 76 462 112 1 460 461 := ⟨⟨⟨rfl, rfl⟩, by decide +kernel⟩, by decide +kernel⟩
set_option maxRecDepth 100000 in
theorem m_77 : mI 77 655 112 0 653 654 := ⟨⟨⟨rfl, rfl⟩, by decide +kernel⟩, by decide +kernel⟩
set_option maxRecDepth 100000 in
theorem m_78 : mI 78 552 112 3 550 551 := ⟨⟨⟨rfl, rfl⟩, by decide +kernel⟩, by decide +kernel⟩
set_option maxRecDepth 100000 in
theorem m_79 : mS 79 555 112 1 554 := ⟨⟨⟨rfl, rfl⟩, by decide +kernel⟩, by decide +kernel⟩
set_option maxRecDepth 100000 in
theorem m_80 : mU 80 293 120 0 292 := ⟨⟨⟨rfl, rfl⟩, by decide +kernel⟩, by decide +kernel⟩
set_option maxRecDepth 100000 in
theorem m_81 : mI 81 685 120 0 683 684 := ⟨⟨⟨rfl, rfl⟩, by decide +kernel⟩, by decide +kernel⟩
set_option maxRecDepth 100000 in
theorem m_82 : mI 82 1109 120 3 1107 1108 := ⟨⟨⟨rfl, rfl⟩, by decide +kernel⟩, by decide +kernel⟩
set_option maxRecDepth 100000 in
theorem m_83 : mI 83 1172 120 1 1170 1171 := ⟨⟨⟨rfl, rfl⟩, by decide +kernel⟩, by decide +kernel⟩
set_option maxRecDepth 100000 in
theorem m_84 : mI 84 1133 120 2 1131 1132 := ⟨⟨⟨rfl, rfl⟩, by decide +kernel⟩, by decide +kernel⟩
set_option maxRecDepth 100000 in
theorem m_85 : mI 85 1129 120 1 1127 1128 := ⟨⟨⟨rfl, rfl⟩, by decide +kernel⟩, by decide +kernel⟩
set_option maxRecDepth 100000 in
theorem m_86 : mU 86 140 111 0 139 := ⟨⟨⟨rfl, rfl⟩, by decide +kernel⟩, by decide +kernel⟩
set_option maxRecDepth 100000 in
theorem m_87 : mI 87 388 111 5 386 387 := ⟨⟨⟨rfl, rfl⟩, by decide +kernel⟩, by decide +kernel⟩
set_option maxRecDepth 100000 in
theorem m_88 : mI 88 399 111 1 397 398 := ⟨⟨⟨rfl, rfl⟩, by decide +kernel⟩, by decide +kernel⟩
set_option maxRecDepth 100000 in
theorem m_89 : mI 89 403 111 1 401 402 := ⟨⟨⟨rfl, rfl⟩, by decide +kernel⟩, by decide +kernel⟩
set_option maxRecDepth 100000 in
theorem m_90 : mI 90 662 111 1 660 661 := ⟨⟨⟨rfl, rfl⟩, by decide +kernel⟩, by decide +kernel⟩
set_option maxRecDepth 100000 in
theorem m_91 : mS 91 406 111 1 405 := ⟨⟨⟨rfl, rfl⟩, by decide +kernel⟩, by decide +kernel⟩
set_option maxRecDepth 100000 in
theorem m_92 : mI 92 410 111 1 409 0 := ⟨⟨⟨rfl, rfl⟩, by decide +kernel⟩, by decide +kernel⟩
set_option maxRecDepth 100000 in
theorem m_93 : mI 93 666 111 0 665 14 := ⟨⟨⟨rfl, rfl⟩, by decide +kernel⟩, by decide +kernel⟩
set_option maxRecDepth 100000 in
theorem m_94 : mI 94 694 111 1 692 693 := ⟨⟨⟨rfl, rfl⟩, by decide +kernel⟩, by decide +kernel⟩
set_option maxRecDepth 100000 in
theorem m_95 : mI 95 1189 111 2 1187 1188 := ⟨⟨⟨rfl, rfl⟩, by decide +kernel⟩, by decide +kernel⟩
set_option maxRecDepth 100000 in
theorem m_96 : mI 96 702 111 2 700 701 := ⟨⟨⟨rfl, rfl⟩, by decide +kernel⟩, by decide +kernel⟩
set_option maxRecDepth 100000 in
theorem m_97 : mI 97 714 111 2 712 713 := ⟨⟨⟨rfl, rfl⟩, by decide +kernel⟩, by decide +kernel⟩
set_option maxRecDepth 100000 in
theorem m_98 : mI 98 734 111 1 732 733 := ⟨⟨⟨rfl, rfl⟩, by decide +kernel⟩, by decide +kernel⟩
set_option maxRecDepth 100000 in
theorem m_99 : mI 99 738 111 1 736 737 := ⟨⟨⟨rfl, rfl⟩, by decide +kernel⟩, by decide +kernel⟩
set_option maxRecDepth 100000 in
theorem m_100 : mI 100 742 111 2 740 741 := ⟨⟨⟨rfl, rfl⟩, by decide +kernel⟩, by decide +kernel⟩
set_option maxRecDepth 100000 in
theorem m_101 : mI 101 755 111 1 753 754 := ⟨⟨⟨rfl, rfl⟩, by decide +kernel⟩, by decide +kernel⟩
set_option maxRecDepth 100000 in
theorem m_102 : mI 102 698 111 0 697 15 := ⟨⟨⟨rfl, rfl⟩, by decide +kernel⟩, by decide +kernel⟩
set_option maxRecDepth 100000 in
theorem m_103 : mI 103 781 111 1 780 22 := ⟨⟨⟨rfl, rfl⟩, by decide +kernel⟩, by decide +kernel⟩
set_option maxRecDepth 100000 in
theorem m_104 : mI 104 706 111 1 705 16 := ⟨⟨⟨rfl, rfl⟩, by decide +kernel⟩, by decide +kernel⟩
set_option maxRecDepth 100000 in
theorem m_105 : mI 105 718 111 1 717 17 := ⟨⟨⟨rfl, rfl⟩, by decide +kernel⟩, by decide +kernel⟩
set_option maxRecDepth 100000 in
theorem m_106 : mI 106 759 111 0 758 19 := ⟨⟨⟨rfl, rfl⟩, by decide +kernel⟩, by decide +kernel⟩
set_option maxRecDepth 100000 in
theorem m_107 : mI 107 746 111 0 745 18 := ⟨⟨⟨rfl, rfl⟩, by decide +kernel⟩, by decide +kernel⟩
set_option maxRecDepth 100000 in
theorem m_108 : mI 108 815 111 0 814 24 := ⟨⟨⟨rfl, rfl⟩, by decide +kernel⟩, by decide +kernel⟩
set_option maxRecDepth 100000 in
theorem m_109 : mI 109 769 111 1 767 768 := ⟨⟨⟨rfl, rfl⟩, by decide +kernel⟩, by decide +kernel⟩
set_option maxRecDepth 100000 in
theorem m_110 : mI 110 904 111 0 902 903 := ⟨⟨⟨rfl, rfl⟩, by decide +kernel⟩, by decide +kernel⟩
set_option maxRecDepth 100000 in
theorem m_111 : mI 111 908 111 2 906 907 := ⟨⟨⟨rfl, rfl⟩, by decide +kernel⟩, by decide +kernel⟩
set_option maxRecDepth 100000 in
theorem m_112 : mI 112 912 111 2 910 911 := ⟨⟨⟨rfl, rfl⟩, by decide +kernel⟩, by decide +kernel⟩
set_option maxRecDepth 100000 in
theorem m_113 : mI 113 916 111 0 914 915 := ⟨⟨⟨rfl, rfl⟩, by decide +kernel⟩, by decide +kernel⟩
set_option maxRecDepth 100000 in
theorem m_114 : mI 114 920 111 1 918 919 := ⟨⟨⟨rfl, rfl⟩, by decide +kernel⟩, by decide +kernel⟩
set_option maxRecDepth 100000 in
theorem m_115 : mI 115 928 111 2 926 927 := ⟨⟨⟨rfl, rfl⟩, by decide +kernel⟩, by decide +kernel⟩
set_option maxRecDepth 100000 in
theorem m_116 : mI 116 948 111 0 946 947 := ⟨⟨⟨rfl, rfl⟩, by decide +kernel⟩, by decide +kernel⟩
set_option maxRecDepth 100000 in
theorem m_117 : mI 117 956 111 0 954 955 := ⟨⟨⟨rfl, rfl⟩, by decide +kernel⟩, by decide +kernel⟩
set_option maxRecDepth 100000 in
theorem m_118 : mI 118 970 111 0 968 969 := ⟨⟨⟨rfl, rfl⟩, by decide +kernel⟩, by decide +kernel⟩
set_option maxRecDepth 100000 in
theorem m_119 : mI 119 924 111 1 923 29 := ⟨⟨⟨rfl, rfl⟩, by decide +kernel⟩, by decide +kernel⟩
set_option maxRecDepth 100000 in
theorem m_120 : mI 120 773 111 3 772 20 := ⟨⟨⟨rfl, rfl⟩, by decide +kernel⟩, by decide +kernel⟩
set_option maxRecDepth 100000 in
theorem m_121 : mI 121 777 111 4 776 21 := ⟨⟨⟨rfl, rfl⟩, by decide +kernel⟩, by decide +kernel⟩
set_option maxRecDepth 100000 in
theorem m_122 : mI 122 803 111 4 802 23 := ⟨⟨⟨rfl, rfl⟩, by decide +kernel⟩, by decide +kernel⟩
set_option maxRecDepth 100000 in
theorem m_123 : mI 123 932 111 0 931 30 := ⟨⟨⟨rfl, rfl⟩, by decide +kernel⟩, by decide +kernel⟩
set_option maxRecDepth 100000 in
theorem m_124 : mI 124 936 111 0 935 31 := ⟨⟨⟨rfl, rfl⟩, by decide +kernel⟩, by decide +kernel⟩
set_option maxRecDepth 100000 in
theorem m_125 : mI 125 943 111 1 942 32 := ⟨⟨⟨rfl, rfl⟩, by decide +kernel⟩, by decide +kernel⟩
set_option maxRecDepth 100000 in
theorem m_126 : mI 126 974 111 3 972 973 := ⟨⟨⟨rfl, rfl⟩, by decide +kernel⟩, by decide +kernel⟩
set_option maxRecDepth 100000 in
theorem m_127 : mI 127 986 111 2 984 985 := ⟨⟨⟨rfl, rfl⟩, by decide +kernel⟩, by decide +kernel⟩
set_option maxRecDepth 100000 in
theorem m_128 : mI 128 994 111 1 992 993 := ⟨⟨⟨rfl, rfl⟩, by decide +kernel⟩, by decide +kernel⟩
set_option maxRecDepth 100000 in
theorem m_129 : mI 129 978 111 1 977 33 := ⟨⟨⟨rfl, rfl⟩, by decide +kernel⟩, by decide +kernel⟩
set_option maxRecDepth 100000 in
theorem m_130 : mI 130 990 111 2 989 34 := ⟨⟨⟨rfl, rfl⟩, by decide +kernel⟩, by decide +kernel⟩
set_option maxRecDepth 100000 in
theorem m_131 : mI 131 998 111 2 996 997 := ⟨⟨⟨rfl, rfl⟩, by decide +kernel⟩, by decide +kernel⟩
set_option maxRecDepth 100000 in
theorem m_132 : mI 132 1003 111 2 1001 1002 := ⟨⟨⟨rfl, rfl⟩, by decide +kernel⟩, by decide +kernel⟩
set_option maxRecDepth 100000 in
theorem m_133 : mI 133 1007 111 1 1005 1006 := ⟨⟨⟨rfl, rfl⟩, by decide +kernel⟩, by decide +kernel⟩
set_option maxRecDepth 100000 in
theorem m_134 : mI 134 1016 111 2 1014 1015 := ⟨⟨⟨rfl, rfl⟩, by decide +kernel⟩, by decide +kernel⟩
set_option maxRecDepth 100000 in
theorem m_135 : mI 135 1021 111 1 1019 1020 := ⟨⟨⟨rfl, rfl⟩, by decide +kernel⟩, by decide +kernel⟩
set_option maxRecDepth 100000 in
theorem m_136 : mI 136 1026 111 0 1024 1025 := ⟨⟨⟨rfl, rfl⟩, by decide +kernel⟩, by decide +kernel⟩
set_option maxRecDepth 100000 in
theorem m_137 : mI 137 1011 111 2 1010 35 := ⟨⟨⟨rfl, rfl⟩, by decide +kernel⟩, by decide +kernel⟩
set_option maxRecDepth 100000 in
theorem m_138 : mI 138 1031 111 1 1029 1030 := ⟨⟨⟨rfl, rfl⟩, by decide +kernel⟩, by decide +kernel⟩
set_option maxRecDepth 100000 in
theorem m_139 : mI 139 1043 111 0 1041 1042 := ⟨⟨⟨rfl, rfl⟩, by decide +kernel⟩, by decide +kernel⟩
set_option maxRecDepth 100000 in
theorem m_140 : mI 140 1047 111 1 1045 1046 := ⟨⟨⟨rfl, rfl⟩, by decide +kernel⟩, by decide +kernel⟩
set_option maxRecDepth 100000 in
theorem m_141 : mI 141 1051 111 1 1049 1050 := ⟨⟨⟨rfl, rfl⟩, by decide +kernel⟩, by decide +kernel⟩
set_option maxRecDepth 100000 in
theorem m_142 : mI 142 1055 111 4 1053 1054 := ⟨⟨⟨rfl, rfl⟩, by decide +kernel⟩, by decide +kernel⟩
set_option maxRecDepth 100000 in
theorem m_143 : mI 143 1071 111 3 1069 1070 := ⟨⟨⟨rfl, rfl⟩, by decide +kernel⟩, by decide +kernel⟩
set_option maxRecDepth 100000 in
theorem m_144 : mI 144 1035 111 1 1034 36 := ⟨⟨⟨rfl, rfl⟩, by decide +kernel⟩, by decide +kernel⟩
set_option maxRecDepth 100000 in
theorem m_145 : mI 145 1039 111 1 1038 37 := ⟨⟨⟨rfl, rfl⟩, by decide +kernel⟩, by decide +kernel⟩
set_option maxRecDepth 100000 in
theorem m_146 : mI 146 1059 111 2 1058 38 := ⟨⟨⟨rfl, rfl⟩, by decide +kernel⟩, by decide +kernel⟩
set_option maxRecDepth 100000 in
theorem m_147 : mI 147 1063 111 0 1062 39 := ⟨⟨⟨rfl, rfl⟩, by decide +kernel⟩, by decide +kernel⟩
set_option maxRecDepth 100000 in
theorem m_148 : mI 148 1067 111 4 1066 40 := ⟨⟨⟨rfl, rfl⟩, by decide +kernel⟩, by decide +kernel⟩
set_option maxRecDepth 100000 in
theorem m_149 : mI 149 1075 111 1 1073 1074 := ⟨⟨⟨rfl, rfl⟩, by decide +kernel⟩, by decide +kernel⟩
set_option maxRecDepth 100000 in
theorem m_150 : mI 150 1089 111 0 1087 1088 := ⟨⟨⟨rfl, rfl⟩, by decide +kernel⟩, by decide +kernel⟩
set_option maxRecDepth 100000 in
theorem m_151 : mI 151 1093 111 0 1091 1092 := ⟨⟨⟨rfl, rfl⟩, by decide +kernel⟩, by decide +kernel⟩
set_option maxRecDepth 100000 in
theorem m_152 : mI 152 1097 111 0 1095 1096 := ⟨⟨⟨rfl, rfl⟩, by decide +kernel⟩, by decide +kernel⟩
set_option maxRecDepth 100000 in
theorem m_153 : mI 153 1101 111 0 1099 1100 := ⟨⟨⟨rfl, rfl⟩, by decide +kernel⟩, by decide +kernel⟩
set_option maxRecDepth 100000 in
theorem m_154 : mI 154 1105 111 3 1103 1104 := ⟨⟨⟨rfl, rfl⟩, by decide +kernel⟩, by decide +kernel⟩
set_option maxRecDepth 100000 in
theorem m_155 : mI 155 1113 111 0 1111 1112 := ⟨⟨⟨rfl, rfl⟩, by decide +kernel⟩, by decide +kernel⟩
set_option maxRecDepth 100000 in
theorem m_156 : mI 156 1137 111 2 1135 1136 := ⟨⟨⟨rfl, rfl⟩, by decide +kernel⟩, by decide +kernel⟩
set_option maxRecDepth 100000 in
theorem m_157 : mI 157 1145 111 2 1143 1144 := ⟨⟨⟨rfl, rfl⟩, by decide +kernel⟩, by decide +kernel⟩
set_option maxRecDepth 100000 in
theorem m_158 : mI 158 1149 111 1 1147 1148 := ⟨⟨⟨rfl, rfl⟩, by decide +kernel⟩, by decide +kernel⟩
set_option maxRecDepth 100000 in
theorem m_159 : mI 159 1160 111 0 1158 1159 := ⟨⟨⟨rfl, rfl⟩, by decide +kernel⟩, by decide +kernel⟩
set_option maxRecDepth 100000 in
theorem m_160 : mI 160 1164 111 1 1162 1163 := ⟨⟨⟨rfl, rfl⟩, by decide +kernel⟩, by decide +kernel⟩
set_option maxRecDepth 100000 in
theorem m_161 : mI 161 1141 111 1 1140 45 := ⟨⟨⟨rfl, rfl⟩, by decide +kernel⟩, by decide +kernel⟩
set_option maxRecDepth 100000 in
theorem m_162 : mI 162 1121 111 0 1120 43 := ⟨⟨⟨rfl, rfl⟩, by decide +kernel⟩, by decide +kernel⟩
set_option maxRecDepth 100000 in
theorem m_163 : mI 163 1125 111 1 1124 44 := ⟨⟨⟨rfl, rfl⟩, by decide +kernel⟩, by decide +kernel⟩
set_option maxRecDepth 100000 in
theorem m_164 : mI 164 1117 111 0 1116 42 := ⟨⟨⟨rfl, rfl⟩, by decide +kernel⟩, by decide +kernel⟩
set_option maxRecDepth 100000 in
theorem m_165 : mI 165 1153 111 2 1152 46 := ⟨⟨⟨rfl, rfl⟩, by decide +kernel⟩, by decide +kernel⟩
set_option maxRecDepth 100000 in
theorem m_166 : mI 166 1168 111 1 1167 47 := ⟨⟨⟨rfl, rfl⟩, by decide +kernel⟩, by decide +kernel⟩
set_option maxRecDepth 100000 in
theorem m_167 : mS 167 1180 111 2 1179 := ⟨⟨⟨rfl, rfl⟩, by decide +kernel⟩, by decide +kernel⟩
set_option maxRecDepth 100000 in
theorem m_168 : mU 168 1261 122 0 1260 := ⟨⟨⟨rfl, rfl⟩, by decide +kernel⟩, by decide +kernel⟩
set_option maxRecDepth 100000 in
theorem m_169 : mI 169 1414 122 0 1412 1413 := ⟨⟨⟨rfl, rfl⟩, by decide +kernel⟩, by decide +kernel⟩
set_option maxRecDepth 100000 in
theorem m_170 : mS 170 1437 122 3 1436 := ⟨⟨⟨rfl, rfl⟩, by decide +kernel⟩, by decide +kernel⟩
set_option maxRecDepth 100000 in
theorem m_171 : mS 171 1492 122 2 1491 := ⟨⟨⟨rfl, rfl⟩, by decide +kernel⟩, by decide +kernel⟩
set_option maxRecDepth 100000 in
theorem m_172 : mS 172 1523 122 2 1522 := ⟨⟨⟨rfl, rfl⟩, by decide +kernel⟩, by decide +kernel⟩
set_option maxRecDepth 100000 in
theorem m_173 : mS 173 1421 122 1 1420 := ⟨⟨⟨rfl, rfl⟩, by decide +kernel⟩, by decide +kernel⟩
set_option maxRecDepth 100000 in
theorem m_174 : mI 174 1425 122 1 1424 49 := ⟨⟨⟨rfl, rfl⟩, by decide +kernel⟩, by decide +kernel⟩
set_option maxRecDepth 100000 in
theorem m_175 : mI 175 1418 122 5 1416 1417 := ⟨⟨⟨rfl, rfl⟩, by decide +kernel⟩, by decide +kernel⟩
set_option maxRecDepth 100000 in
theorem m_176 : mI 176 1429 122 1 1427 1428 := ⟨⟨⟨rfl, rfl⟩, by decide +kernel⟩, by decide +kernel⟩
set_option maxRecDepth 100000 in
theorem m_177 : mI 177 1456 122 0 1455 53 := ⟨⟨⟨rfl, rfl⟩, by decide +kernel⟩, by decide +kernel⟩
set_option maxRecDepth 100000 in
theorem m_178 : mI 178 1460 122 0 1459 54 := ⟨⟨⟨rfl, rfl⟩, by decide +kernel⟩, by decide +kernel⟩
set_option maxRecDepth 100000 in
theorem m_179 : mI 179 1555 122 0 1554 68 := ⟨⟨⟨rfl, rfl⟩, by decide +kernel⟩, by decide +kernel⟩
set_option maxRecDepth 100000 in
theorem m_180 : mI 180 1527 122 1 1526 61 := ⟨⟨⟨rfl, rfl⟩, by decide +kernel⟩, by decide +kernel⟩
set_option maxRecDepth 100000 in
theorem m_181 : mI 181 1506 122 0 1505 57 := ⟨⟨⟨rfl, rfl⟩, by decide +kernel⟩, by decide +kernel⟩
set_option maxRecDepth 100000 in
theorem m_182 : mS 182 1558 122 1 1557 := ⟨⟨⟨rfl, rfl⟩, by decide +kernel⟩, by decide +kernel⟩
set_option maxRecDepth 100000 in
theorem m_183 : mI 183 1551 122 0 1550 67 := ⟨⟨⟨rfl, rfl⟩, by decide +kernel⟩, by decide +kernel⟩
set_option maxRecDepth 100000 in
theorem m_184 : mI 184 1547 122 0 1546 66 := ⟨⟨⟨rfl, rfl⟩, by decide +kernel⟩, by decide +kernel⟩
set_option maxRecDepth 100000 in
theorem m_185 : mI 185 1543 122 0 1542 65 := ⟨⟨⟨rfl, rfl⟩, by decide +kernel⟩, by decide +kernel⟩
set_option maxRecDepth 100000 in
theorem m_186 : mS 186 1565 122 1 1564 := ⟨⟨⟨rfl, rfl⟩, by decide +kernel⟩, by decide +kernel⟩
set_option maxRecDepth 100000 in
theorem m_187 : mI 187 1539 122 2 1538 64 := ⟨⟨⟨rfl, rfl⟩, by decide +kernel⟩, by decide +kernel⟩
set_option maxRecDepth 100000 in
theorem m_188 : mI 188 1569 122 0 1568 69 := ⟨⟨⟨rfl, rfl⟩, by decide +kernel⟩, by decide +kernel⟩
set_option maxRecDepth 100000 in
theorem m_189 : mI 189 1535 122 2 1534 63 := ⟨⟨⟨rfl, rfl⟩, by decide +kernel⟩, by decide +kernel⟩
set_option maxRecDepth 100000 in
theorem m_190 : mI 190 1531 122 2 1530 62 := ⟨⟨⟨rfl, rfl⟩, by decide +kernel⟩, by decide +kernel⟩
set_option maxRecDepth 100000 in
theorem m_191 : mI 191 1520 122 0 1519 60 := ⟨⟨⟨rfl, rfl⟩, by decide +kernel⟩, by decide +kernel⟩
set_option maxRecDepth 100000 in
theorem m_192 : mI 192 1445 122 3 1444 51 := ⟨⟨⟨rfl, rfl⟩, by decide +kernel⟩, by decide +kernel⟩
set_option maxRecDepth 100000 in
theorem m_193 : mI 193 1516 122 3 1515 59 := ⟨⟨⟨rfl, rfl⟩, by decide +kernel⟩, by decide +kernel⟩
set_option maxRecDepth 100000 in
theorem m_194 : mI 194 1510 122 0 1509 58 := ⟨⟨⟨rfl, rfl⟩, by decide +kernel⟩, by decide +kernel⟩
set_option maxRecDepth 100000 in
theorem m_195 : mS 195 1469 122 2 1468 := ⟨⟨⟨rfl, rfl⟩, by decide +kernel⟩, by decide +kernel⟩
set_option maxRecDepth 100000 in
theorem m_196 : mI 196 1502 122 2 1501 56 := ⟨⟨⟨rfl, rfl⟩, by decide +kernel⟩, by decide +kernel⟩
set_option maxRecDepth 100000 in
theorem m_197 : mS 197 1498 122 2 1497 := ⟨⟨⟨rfl, rfl⟩, by decide +kernel⟩, by decide +kernel⟩
set_option maxRecDepth 100000 in
theorem m_198 : mS 198 1495 122 2 1494 := ⟨⟨⟨rfl, rfl⟩, by decide +kernel⟩, by decide +kernel⟩
set_option maxRecDepth 100000 in
theorem m_199 : mS 199 1448 122 2 1447 := ⟨⟨⟨rfl, rfl⟩, by decide +kernel⟩, by decide +kernel⟩
set_option maxRecDepth 100000 in
theorem m_200 : mI 200 1465 122 4 1464 55 := ⟨⟨⟨rfl, rfl⟩, by decide +kernel⟩, by decide +kernel⟩
set_option maxRecDepth 100000 in
theorem m_201 : mI 201 1452 122 0 1451 52 := ⟨⟨⟨rfl, rfl⟩, by decide +kernel⟩, by decide +kernel⟩
set_option maxRecDepth 100000 in
theorem m_202 : mI 202 1441 122 0 1440 50 := ⟨⟨⟨rfl, rfl⟩, by decide +kernel⟩, by decide +kernel⟩
set_option maxRecDepth 100000 in
theorem m_203 : mI 203 1582 122 0 1581 72 := ⟨⟨⟨rfl, rfl⟩, by decide +kernel⟩, by decide +kernel⟩
set_option maxRecDepth 100000 in
theorem m_204 : mI 204 1577 122 1 1576 71 := ⟨⟨⟨rfl, rfl⟩, by decide +kernel⟩, by decide +kernel⟩
set_option maxRecDepth 100000 in
theorem m_205 : mI 205 1573 122 0 1572 70 := ⟨⟨⟨rfl, rfl⟩, by decide +kernel⟩, by decide +kernel⟩
set_option maxRecDepth 100000 in
theorem m_206 : mI 206 1433 122 1 1431 1432 := ⟨⟨⟨rfl, rfl⟩, by decide +kernel⟩, by decide +kernel⟩
set_option maxRecDepth 100000 in
theorem m_207 : mI 207 1586 122 1 1584 1585 := ⟨⟨⟨rfl, rfl⟩, by decide +kernel⟩, by decide +kernel⟩
set_option maxRecDepth 100000 in
theorem m_208 : mS 208 1767 122 2 1766 := ⟨⟨⟨rfl, rfl⟩, by decide +kernel⟩, by decide +kernel⟩
set_option maxRecDepth 100000 in
theorem m_209 : mI 209 1604 122 1 1603 74 := ⟨⟨⟨rfl, rfl⟩, by decide +kernel⟩, by decide +kernel⟩
set_option maxRecDepth 100000 in
theorem m_210 : mI 210 1621 122 1 1620 76 := ⟨⟨⟨rfl, rfl⟩, by decide +kernel⟩, by decide +kernel⟩
set_option maxRecDepth 100000 in
theorem m_211 : mI 211 1591 122 2 1590 73 := ⟨⟨⟨rfl, rfl⟩, by decide +kernel⟩, by decide +kernel⟩
set_option maxRecDepth 100000 in
theorem m_212 : mI 212 1613 122 2 1612 75 := ⟨⟨⟨rfl, rfl⟩, by decide +kernel⟩, by decide +kernel⟩
set_option maxRecDepth 100000 in
theorem m_213 : mI 213 1662 122 1 1661 82 := ⟨⟨⟨rfl, rfl⟩, by decide +kernel⟩, by decide +kernel⟩
set_option maxRecDepth 100000 in
theorem m_214 : mI 214 1678 122 4 1677 86 := ⟨⟨⟨rfl, rfl⟩, by decide +kernel⟩, by decide +kernel⟩
set_option maxRecDepth 100000 in
theorem m_215 : mI 215 1674 122 3 1673 85 := ⟨⟨⟨rfl, rfl⟩, by decide +kernel⟩, by decide +kernel⟩
set_option maxRecDepth 100000 in
theorem m_216 : mI 216 1684 122 2 1683 87 := ⟨⟨⟨rfl, rfl⟩, by decide +kernel⟩, by decide +kernel⟩
set_option maxRecDepth 100000 in
theorem m_217 : mI 217 1654 122 1 1653 80 := ⟨⟨⟨rfl, rfl⟩, by decide +kernel⟩, by decide +kernel⟩
set_option maxRecDepth 100000 in
theorem m_218 : mI 218 1670 122 3 1669 84 := ⟨⟨⟨rfl, rfl⟩, by decide +kernel⟩, by decide +kernel⟩
set_option maxRecDepth 100000 in
theorem m_219 : mI 219 1666 122 2 1665 83 := ⟨⟨⟨rfl, rfl⟩, by decide +kernel⟩, by decide +kernel⟩
set_option maxRecDepth 100000 in
theorem m_220 : mI 220 1658 122 1 1657 81 := ⟨⟨⟨rfl, rfl⟩, by decide +kernel⟩, by decide +kernel⟩
set_option maxRecDepth 100000 in
theorem m_221 : mI 221 1729 122 1 1728 93 := ⟨⟨⟨rfl, rfl⟩, by decide +kernel⟩, by decide +kernel⟩
set_option maxRecDepth 100000 in
theorem m_222 : mI 222 1595 122 1 1593 1594 := ⟨⟨⟨rfl, rfl⟩, by decide +kernel⟩, by decide +kernel⟩
set_option maxRecDepth 100000 in
theorem m_223 : mI 223 1600 122 2 1598 1599 := ⟨⟨⟨rfl, rfl⟩, by decide +kernel⟩, by decide +kernel⟩
set_option maxRecDepth 100000 in
theorem m_224 : mI 224 1609 122 2 1607 1608 := ⟨⟨⟨rfl, rfl⟩, by decide +kernel⟩, by decide +kernel⟩
set_option maxRecDepth 100000 in
theorem m_225 : mI 225 1617 122 2 1615 1616 := ⟨⟨⟨rfl, rfl⟩, by decide +kernel⟩, by decide +kernel⟩
set_option maxRecDepth 100000 in
theorem m_226 : mI 226 1625 122 1 1623 1624 := ⟨⟨⟨rfl, rfl⟩, by decide +kernel⟩, by decide +kernel⟩
set_option maxRecDepth 100000 in
theorem m_227 : mI 227 1629 122 1 1627 1628 := ⟨⟨⟨rfl, rfl⟩, by decide +kernel⟩, by decide +kernel⟩
set_option maxRecDepth 100000 in
theorem m_228 : mI 228 1642 122 0 1641 78 := ⟨⟨⟨rfl, rfl⟩, by decide +kernel⟩, by decide +kernel⟩
set_option maxRecDepth 100000 in
theorem m_229 : mI 229 1638 122 2 1637 77 := ⟨⟨⟨rfl, rfl⟩, by decide +kernel⟩, by decide +kernel⟩
set_option maxRecDepth 100000 in
theorem m_230 : mI 230 1634 122 1 1632 1633 := ⟨⟨⟨rfl, rfl⟩, by decide +kernel⟩, by decide +kernel⟩
set_option maxRecDepth 100000 in
theorem m_231 : mI 231 1650 122 1 1649 79 := ⟨⟨⟨rfl, rfl⟩, by decide +kernel⟩, by decide +kernel⟩
set_option maxRecDepth 100000 in
theorem m_232 : mI 232 1646 122 0 1644 1645 := ⟨⟨⟨rfl, rfl⟩, by decide +kernel⟩, by decide +kernel⟩
set_option maxRecDepth 100000 in
theorem m_233 : mI 233 1693 122 2 1692 88 := ⟨⟨⟨rfl, rfl⟩, by decide +kernel⟩, by decide +kernel⟩
set_option maxRecDepth 100000 in
theorem m_234 : mS 234 1696 122 3 1695 := ⟨⟨⟨rfl, rfl⟩, by decide +kernel⟩, by decide +kernel⟩
set_option maxRecDepth 100000 in
theorem m_235 : mI 235 1689 122 2 1687 1688 := ⟨⟨⟨rfl, rfl⟩, by decide +kernel⟩, by decide +kernel⟩
set_option maxRecDepth 100000 in
theorem m_236 : mI 236 1700 122 2 1698 1699 := ⟨⟨⟨rfl, rfl⟩, by decide +kernel⟩, by decide +kernel⟩
set_option maxRecDepth 100000 in
theorem m_237 : mI 237 1712 122 1 1711 90 := ⟨⟨⟨rfl, rfl⟩, by decide +kernel⟩, by decide +kernel⟩
set_option maxRecDepth 100000 in
theorem m_238 : mI 238 1708 122 1 1707 89 := ⟨⟨⟨rfl, rfl⟩, by decide +kernel⟩, by decide +kernel⟩
set_option maxRecDepth 100000 in
theorem m_239 : mI 239 1716 122 1 1715 91 := ⟨⟨⟨rfl, rfl⟩, by decide +kernel⟩, by decide +kernel⟩
set_option maxRecDepth 100000 in
theorem m_240 : mI 240 1704 122 0 1702 1703 := ⟨⟨⟨rfl, rfl⟩, by decide +kernel⟩, by decide +kernel⟩
set_option maxRecDepth 100000 in
theorem m_241 : mI 241 1724 122 1 1723 92 := ⟨⟨⟨rfl, rfl⟩, by decide +kernel⟩, by decide +kernel⟩
set_option maxRecDepth 100000 in
theorem m_242 : mI 242 1720 122 1 1718 1719 := ⟨⟨⟨rfl, rfl⟩, by decide +kernel⟩, by decide +kernel⟩
set_option maxRecDepth 100000 in
theorem m_243 : mI 243 1737 122 1 1736 94 := ⟨⟨⟨rfl, rfl⟩, by decide +kernel⟩, by decide +kernel⟩
set_option maxRecDepth 100000 in
theorem m_244 : mI 244 1743 122 1 1742 95 := ⟨⟨⟨rfl, rfl⟩, by decide +kernel⟩, by decide +kernel⟩
set_option maxRecDepth 100000 in
theorem m_245 : mI 245 1733 122 2 1731 1732 := ⟨⟨⟨rfl, rfl⟩, by decide +kernel⟩, by decide +kernel⟩
set_option maxRecDepth 100000 in
theorem m_246 : mI 246 1747 122 0 1745 1746 := ⟨⟨⟨rfl, rfl⟩, by decide +kernel⟩, by decide +kernel⟩
set_option maxRecDepth 100000 in
theorem m_247 : mI 247 1751 122 2 1749 1750 := ⟨⟨⟨rfl, rfl⟩, by decide +kernel⟩, by decide +kernel⟩
set_option maxRecDepth 100000 in
theorem m_248 : mI 248 1759 122 1 1758 96 := ⟨⟨⟨rfl, rfl⟩, by decide +kernel⟩, by decide +kernel⟩
set_option maxRecDepth 100000 in
theorem m_249 : mI 249 1755 122 3 1753 1754 := ⟨⟨⟨rfl, rfl⟩, by decide +kernel⟩, by decide +kernel⟩
set_option maxRecDepth 100000 in
theorem m_250 : mI 250 1771 122 2 1770 97 := ⟨⟨⟨rfl, rfl⟩, by decide +kernel⟩, by decide +kernel⟩
set_option maxRecDepth 100000 in
theorem m_251 : mI 251 1775 122 2 1774 98 := ⟨⟨⟨rfl, rfl⟩, by decide +kernel⟩, by decide +kernel⟩
set_option maxRecDepth 100000 in
theorem m_252 : mI 252 1764 122 2 1762 1763 := ⟨⟨⟨rfl, rfl⟩, by decide +kernel⟩, by decide +kernel⟩
set_option maxRecDepth 100000 in
theorem m_253 : mI 253 1779 122 1 1777 1778 := ⟨⟨⟨rfl, rfl⟩, by decide +kernel⟩, by decide +kernel⟩
set_option maxRecDepth 100000 in
theorem m_254 : mI 254 1783 122 2 1781 1782 := ⟨⟨⟨rfl, rfl⟩, by decide +kernel⟩, by decide +kernel⟩
set_option maxRecDepth 100000 in
theorem m_255 : mI 255 1787 122 2 1785 1786 := ⟨⟨⟨rfl, rfl⟩, by decide +kernel⟩, by decide +kernel⟩
set_option maxRecDepth 100000 in
theorem m_256 : mI 256 1799 122 2 1798 100 := ⟨⟨⟨rfl, rfl⟩, by decide +kernel⟩, by decide +kernel⟩
set_option maxRecDepth 100000 in
theorem m_257 : mI 257 1795 122 1 1794 99 := ⟨⟨⟨rfl, rfl⟩, by decide +kernel⟩, by decide +kernel⟩
set_option maxRecDepth 100000 in
theorem m_258 : mI 258 1791 122 1 1789 1790 := ⟨⟨⟨rfl, rfl⟩, by decide +kernel⟩, by decide +kernel⟩
set_option maxRecDepth 100000 in
theorem m_259 : mI 259 1803 122 0 1801 1802 := ⟨⟨⟨rfl, rfl⟩, by decide +kernel⟩, by decide +kernel⟩
set_option maxRecDepth 100000 in
theorem m_260 : mI 260 1811 122 4 1810 101 := ⟨⟨⟨rfl, rfl⟩, by decide +kernel⟩, by decide +kernel⟩
set_option maxRecDepth 100000 in
theorem m_261 : mI 261 1807 122 1 1805 1806 := ⟨⟨⟨rfl, rfl⟩, by decide +kernel⟩, by decide +kernel⟩
set_option maxRecDepth 100000 in
theorem m_262 : mI 262 1815 122 3 1813 1814 := ⟨⟨⟨rfl, rfl⟩, by decide +kernel⟩, by decide +kernel⟩
set_option maxRecDepth 100000 in
theorem m_263 : mI 263 1831 122 1 1830 104 := ⟨⟨⟨rfl, rfl⟩, by decide +kernel⟩, by decide +kernel⟩
set_option maxRecDepth 100000 in
theorem m_264 : mI 264 1827 122 0 1826 103 := ⟨⟨⟨rfl, rfl⟩, by decide +kernel⟩, by decide +kernel⟩
set_option maxRecDepth 100000 in
theorem m_265 : mI 265 1823 122 0 1822 102 := ⟨⟨⟨rfl, rfl⟩, by decide +kernel⟩, by decide +kernel⟩
set_option maxRecDepth 100000 in
theorem m_266 : mI 266 1819 122 0 1817 1818 := ⟨⟨⟨rfl, rfl⟩, by decide +kernel⟩, by decide +kernel⟩
set_option maxRecDepth 100000 in
theorem m_267 : mI 267 1839 122 1 1838 105 := ⟨⟨⟨rfl, rfl⟩, by decide +kernel⟩, by decide +kernel⟩
set_option maxRecDepth 100000 in
theorem m_268 : mI 268 1835 122 2 1833 1834 := ⟨⟨⟨rfl, rfl⟩, by decide +kernel⟩, by decide +kernel⟩
set_option maxRecDepth 100000 in
theorem m_269 : mI 269 1844 122 2 1842 1843 := ⟨⟨⟨rfl, rfl⟩, by decide +kernel⟩, by decide +kernel⟩
set_option maxRecDepth 100000 in
theorem m_270 : mI 270 1849 122 1 1847 1848 := ⟨⟨⟨rfl, rfl⟩, by decide +kernel⟩, by decide +kernel⟩
set_option maxRecDepth 100000 in
theorem m_271 : mI 271 1854 122 0 1852 1853 := ⟨⟨⟨rfl, rfl⟩, by decide +kernel⟩, by decide +kernel⟩
set_option maxRecDepth 100000 in
theorem m_272 : mI 272 1862 122 1 1861 106 := ⟨⟨⟨rfl, rfl⟩, by decide +kernel⟩, by decide +kernel⟩
set_option maxRecDepth 100000 in
theorem m_273 : mI 273 1858 122 1 1856 1857 := ⟨⟨⟨rfl, rfl⟩, by decide +kernel⟩, by decide +kernel⟩
set_option maxRecDepth 100000 in
theorem m_274 : mI 274 1867 122 1 1865 1866 := ⟨⟨⟨rfl, rfl⟩, by decide +kernel⟩, by decide +kernel⟩
set_option maxRecDepth 100000 in
theorem m_275 : mI 275 1875 122 2 1874 107 := ⟨⟨⟨rfl, rfl⟩, by decide +kernel⟩, by decide +kernel⟩
set_option maxRecDepth 100000 in
theorem m_276 : mI 276 1871 122 2 1869 1870 := ⟨⟨⟨rfl, rfl⟩, by decide +kernel⟩, by decide +kernel⟩
set_option maxRecDepth 100000 in
theorem m_277 : mI 277 1879 122 0 1877 1878 := ⟨⟨⟨rfl, rfl⟩, by decide +kernel⟩, by decide +kernel⟩
set_option maxRecDepth 100000 in
theorem m_278 : mI 278 1883 122 1 1881 1882 := ⟨⟨⟨rfl, rfl⟩, by decide +kernel⟩, by decide +kernel⟩
set_option maxRecDepth 100000 in
theorem m_279 : mI 279 1887 122 0 1885 1886 := ⟨⟨⟨rfl, rfl⟩, by decide +kernel⟩, by decide +kernel⟩
set_option maxRecDepth 100000 in
theorem m_280 : mI 280 1891 122 1 1889 1890 := ⟨⟨⟨rfl, rfl⟩, by decide +kernel⟩, by decide +kernel⟩
set_option maxRecDepth 100000 in
theorem m_281 : mI 281 1895 122 0 1893 1894 := ⟨⟨⟨rfl, rfl⟩, by decide +kernel⟩, by decide +kernel⟩
set_option maxRecDepth 100000 in
theorem m_282 : mI 282 1899 122 0 1897 1898 := ⟨⟨⟨rfl, rfl⟩, by decide +kernel⟩, by decide +kernel⟩
set_option maxRecDepth 100000 in
theorem m_283 : mI 283 1903 122 0 1901 1902 := ⟨⟨⟨rfl, rfl⟩, by decide +kernel⟩, by decide +kernel⟩
set_option maxRecDepth 100000 in
theorem m_284 : mI 284 1907 122 1 1905 1906 := ⟨⟨⟨rfl, rfl⟩, by decide +kernel⟩, by decide +kernel⟩
set_option maxRecDepth 100000 in
theorem m_285 : mI 285 1915 122 2 1914 108 := ⟨⟨⟨rfl, rfl⟩, by decide +kernel⟩, by decide +kernel⟩
set_option maxRecDepth 100000 in
theorem m_286 : mI 286 1919 122 4 1918 109 := ⟨⟨⟨rfl, rfl⟩, by decide +kernel⟩, by decide +kernel⟩
set_option maxRecDepth 100000 in
theorem m_287 : mI 287 1911 122 4 1909 1910 := ⟨⟨⟨rfl, rfl⟩, by decide +kernel⟩, by decide +kernel⟩
set_option maxRecDepth 100000 in
theorem m_288 : mI 288 1923 122 3 1921 1922 := ⟨⟨⟨rfl, rfl⟩, by decide +kernel⟩, by decide +kernel⟩
set_option maxRecDepth 100000 in
theorem m_289 : mI 289 1927 122 0 1925 1926 := ⟨⟨⟨rfl, rfl⟩, by decide +kernel⟩, by decide +kernel⟩
set_option maxRecDepth 100000 in
theorem m_290 : mI 290 1931 122 0 1929 1930 := ⟨⟨⟨rfl, rfl⟩, by decide +kernel⟩, by decide +kernel⟩
set_option maxRecDepth 100000 in
theorem m_291 : mI 291 1935 122 1 1933 1934 := ⟨⟨⟨rfl, rfl⟩, by decide +kernel⟩, by decide +kernel⟩
set_option maxRecDepth 100000 in
theorem m_295 : mS 295 889 135 1 888 := ⟨⟨⟨rfl, rfl⟩, by decide +kernel⟩, by decide +kernel⟩
set_option maxRecDepth 100000 in
theorem m_301 : mI 301 452 124 0 450 451 := ⟨⟨⟨rfl, rfl⟩, by decide +kernel⟩, by decide +kernel⟩
set_option maxRecDepth 100000 in
theorem m_302 : mI 302 1473 124 1 1471 1472 := ⟨⟨⟨rfl, rfl⟩, by decide +kernel⟩, by decide +kernel⟩
set_option maxRecDepth 100000 in
theorem m_303 : mI 303 467 124 1 465 466 := ⟨⟨⟨rfl, rfl⟩, by decide +kernel⟩, by decide +kernel⟩
set_option maxRecDepth 100000 in
theorem m_304 : mI 304 471 124 2 469 470 := ⟨⟨⟨rfl, rfl⟩, by decide +kernel⟩, by decide +kernel⟩
set_option maxRecDepth 100000 in
theorem m_305 : mI 305 456 124 0 454 455 := ⟨⟨⟨rfl, rfl⟩, by decide +kernel⟩, by decide +kernel⟩
set_option maxRecDepth 100000 in
theorem m_306 : mI 306 475 124 0 473 474 := ⟨⟨⟨rfl, rfl⟩, by decide +kernel⟩, by decide +kernel⟩
set_option maxRecDepth 100000 in
theorem m_307 : mS 307 1479 124 2 1478 := ⟨⟨⟨rfl, rfl⟩, by decide +kernel⟩, by decide +kernel⟩
set_option maxRecDepth 100000 in
theorem m_308 : mS 308 509 124 3 508 := ⟨⟨⟨rfl, rfl⟩, by decide +kernel⟩, by decide +kernel⟩
set_option maxRecDepth 100000 in
theorem m_309 : mS 309 1476 125 2 1475 := ⟨⟨⟨rfl, rfl⟩, by decide +kernel⟩, by decide +kernel⟩
set_option maxRecDepth 100000 in
theorem m_310 : mS 310 482 125 1 481 := ⟨⟨⟨rfl, rfl⟩, by decide +kernel⟩, by decide +kernel⟩
set_option maxRecDepth 100000 in
theorem m_311 : mS 311 479 125 4 478 := ⟨⟨⟨rfl, rfl⟩, by decide +kernel⟩, by decide +kernel⟩
set_option maxRecDepth 100000 in
theorem m_312 : mS 312 491 125 4 490 := ⟨⟨⟨rfl, rfl⟩, by decide +kernel⟩, by decide +kernel⟩
set_option maxRecDepth 100000 in
theorem m_322 : mS 322 673 130 2 672 := ⟨⟨⟨rfl, rfl⟩, by decide +kernel⟩, by decide +kernel⟩
set_option maxRecDepth 100000 in
theorem m_323 : mS 323 1482 128 3 1481 := ⟨⟨⟨rfl, rfl⟩, by decide +kernel⟩, by decide +kernel⟩
set_option maxRecDepth 100000 in
theorem m_324 : mS 324 514 128 4 513 := ⟨⟨⟨rfl, rfl⟩, by decide +kernel⟩, by decide +kernel⟩
end
section
theorem q64_0 : qD 64 0 (.aload_n 0) 1 1 ∧ ((0 : Fin 4) : Nat) = 0 := by decide +kernel
theorem q64_1 : qD 64 1 (.invokespecial 3) 3 4 ∧ inG 149 (.methodLink (mN 64).cls 3 Lib.objectInit) := by decide +kernel
theorem q64_4 : qD 64 4 (.aload_n 0) 1 5 ∧ ((0 : Fin 4) : Nat) = 0 := by decide +kernel
theorem q64_5 : qD 64 5 (.sipush 240) 3 8 ∧ (Int16.ofInt (240)).toInt32 = (240 : Int32) := by decide +kernel
theorem q64_8 : qD 64 8 (.newarray .int) 2 10 ∧ (100 = 100 ∨ 100 = 101 ∨ 100 = 102 ∨ 100 = 103) ∧ newarray.typeOf .int = kty 100 ∧ inG 165 (.arrayClass (kty 100)) := by decide +kernel
theorem q64_10 : qP 64 10 9 13 8 0 150 2 := by decide +kernel
theorem q64_13 : qD 64 13 (.return_) 1 14 ∧ mR 64 = none := by decide +kernel
theorem q65_0 : qD 65 0 (.iconst 0) 1 1 ∧ Int32.ofInt (0) = (0 : Int32) := by decide +kernel
theorem q65_1 : qD 65 1 (.istore_n 1) 1 2 ∧ ((1 : Fin 4) : Nat) = 1 ∧ 1 < mL 65 := by decide +kernel
theorem q65_2 : qD 65 2 (.bipush 24) 2 4 ∧ (Int8.ofInt (24)).toInt32 = (24 : Int32) := by decide +kernel
theorem q65_4 : qD 65 4 (.istore_n 2) 1 5 ∧ ((2 : Fin 4) : Nat) = 2 ∧ 2 < mL 65 := by decide +kernel
theorem q65_5 : qD 65 5 (.iload_n 2) 1 6 ∧ ((2 : Fin 4) : Nat) = 2 := by decide +kernel
theorem q65_6 : qJ 65 6 (.ifCond .lt 27) 9 (27) 33 := by decide +kernel
theorem q65_9 : qD 65 9 (.iload_n 1) 1 10 ∧ ((1 : Fin 4) : Nat) = 1 := by decide +kernel
theorem q65_10 : qD 65 10 (.iload_n 0) 1 11 ∧ ((0 : Fin 4) : Nat) = 0 := by decide +kernel
theorem q65_11 : qD 65 11 (.iload_n 2) 1 12 ∧ ((2 : Fin 4) : Nat) = 2 := by decide +kernel
theorem q65_12 : qD 65 12 (.iushr) 1 13 := by decide +kernel
theorem q65_13 : qD 65 13 (.sipush 255) 3 16 ∧ (Int16.ofInt (255)).toInt32 = (255 : Int32) := by decide +kernel
theorem q65_16 : qD 65 16 (.iand) 1 17 := by decide +kernel
theorem q65_17 : qJ 65 17 (.ifCond .ne 7) 20 (7) 24 := by decide +kernel
theorem q65_20 : qD 65 20 (.iconst 0) 1 21 ∧ Int32.ofInt (0) = (0 : Int32) := by decide +kernel
theorem q65_21 : qJ 65 21 (.goto 4) 24 (4) 25 := by decide +kernel
theorem q65_24 : qD 65 24 (.iconst 1) 1 25 ∧ Int32.ofInt (1) = (1 : Int32) := by decide +kernel
theorem q65_25 : qD 65 25 (.iadd) 1 26 := by decide +kernel
theorem q65_26 : qD 65 26 (.istore_n 1) 1 27 ∧ ((1 : Fin 4) : Nat) = 1 ∧ 1 < mL 65 := by decide +kernel
theorem q65_27 : qD 65 27 (.iinc 2 (-8)) 3 30 ∧ 2 < mL 65 ∧ Int32.ofInt (-8) = (-8 : Int32) := by decide +kernel
theorem q65_30 : qJ 65 30 (.goto (-25)) 33 (-25) 5 := by decide +kernel
theorem q65_33 : qD 65 33 (.iload_n 1) 1 34 ∧ ((1 : Fin 4) : Nat) = 1 := by decide +kernel
theorem q65_34 : qD 65 34 (.ireturn) 1 35 ∧ mR 65 = some .int := by decide +kernel
theorem q66_0 : qD 66 0 (.bipush 24) 2 2 ∧ (Int8.ofInt (24)).toInt32 = (24 : Int32) := by decide +kernel
theorem q66_2 : qD 66 2 (.istore_n 2) 1 3 ∧ ((2 : Fin 4) : Nat) = 2 ∧ 2 < mL 66 := by decide +kernel
theorem q66_3 : qD 66 3 (.iload_n 2) 1 4 ∧ ((2 : Fin 4) : Nat) = 2 := by decide +kernel
theorem q66_4 : qJ 66 4 (.ifCond .lt 51) 7 (51) 55 := by decide +kernel
theorem q66_7 : qD 66 7 (.iload_n 1) 1 8 ∧ ((1 : Fin 4) : Nat) = 1 := by decide +kernel
theorem q66_8 : qD 66 8 (.iload_n 2) 1 9 ∧ ((2 : Fin 4) : Nat) = 2 := by decide +kernel
theorem q66_9 : qD 66 9 (.iushr) 1 10 := by decide +kernel
theorem q66_10 : qD 66 10 (.sipush 255) 3 13 ∧ (Int16.ofInt (255)).toInt32 = (255 : Int32) := by decide +kernel
theorem q66_13 : qD 66 13 (.iand) 1 14 := by decide +kernel
theorem q66_14 : qD 66 14 (.istore_n 3) 1 15 ∧ ((3 : Fin 4) : Nat) = 3 ∧ 3 < mL 66 := by decide +kernel
theorem q66_15 : qD 66 15 (.iload_n 3) 1 16 ∧ ((3 : Fin 4) : Nat) = 3 := by decide +kernel
theorem q66_16 : qJ 66 16 (.ifCond .eq 33) 19 (33) 49 := by decide +kernel
theorem q66_19 : qD 66 19 (.aload_n 0) 1 20 ∧ ((0 : Fin 4) : Nat) = 0 := by decide +kernel
theorem q66_20 : qG 66 20 15 23 8 1 152 0 := by decide +kernel
theorem q66_23 : qD 66 23 (.sipush 240) 3 26 ∧ (Int16.ofInt (240)).toInt32 = (240 : Int32) := by decide +kernel
theorem q66_26 : qJ 66 26 (.if_icmp .ge 23) 29 (23) 49 := by decide +kernel
theorem q66_29 : qD 66 29 (.aload_n 0) 1 30 ∧ ((0 : Fin 4) : Nat) = 0 := by decide +kernel
theorem q66_30 : qG 66 30 9 33 8 0 150 2 := by decide +kernel
theorem q66_33 : qD 66 33 (.aload_n 0) 1 34 ∧ ((0 : Fin 4) : Nat) = 0 := by decide +kernel
theorem q66_34 : qG 66 34 15 37 8 1 152 0 := by decide +kernel
theorem q66_37 : qD 66 37 (.iload_n 3) 1 38 ∧ ((3 : Fin 4) : Nat) = 3 := by decide +kernel
theorem q66_38 : qD 66 38 (.iastore) 1 39 := by decide +kernel
theorem q66_39 : qD 66 39 (.aload_n 0) 1 40 ∧ ((0 : Fin 4) : Nat) = 0 := by decide +kernel
theorem q66_40 : qD 66 40 (.dup) 1 41 := by decide +kernel
theorem q66_41 : qG 66 41 15 44 8 1 152 0 := by decide +kernel
theorem q66_44 : qD 66 44 (.iconst 1) 1 45 ∧ Int32.ofInt (1) = (1 : Int32) := by decide +kernel
theorem q66_45 : qD 66 45 (.iadd) 1 46 := by decide +kernel
theorem q66_46 : qP 66 46 15 49 8 1 152 0 := by decide +kernel
theorem q66_49 : qD 66 49 (.iinc 2 (-8)) 3 52 ∧ 2 < mL 66 ∧ Int32.ofInt (-8) = (-8 : Int32) := by decide +kernel
theorem q66_52 : qJ 66 52 (.goto (-49)) 55 (-49) 3 := by decide +kernel
theorem q66_55 : qD 66 55 (.return_) 1 56 ∧ mR 66 = none := by decide +kernel
theorem q67_0 : qD 67 0 (.aload_n 0) 1 1 ∧ ((0 : Fin 4) : Nat) = 0 := by decide +kernel
theorem q67_1 : qD 67 1 (.iconst 0) 1 2 ∧ Int32.ofInt (0) = (0 : Int32) := by decide +kernel
theorem q67_2 : qP 67 2 19 5 8 2 153 0 := by decide +kernel
theorem q67_5 : qD 67 5 (.aload_n 0) 1 6 ∧ ((0 : Fin 4) : Nat) = 0 := by decide +kernel
theorem q67_6 : qD 67 6 (.iconst (-1)) 1 7 ∧ Int32.ofInt (-1) = (-1 : Int32) := by decide +kernel
theorem q67_7 : qP 67 7 22 10 8 3 154 0 := by decide +kernel
theorem q67_10 : qD 67 10 (.return_) 1 11 ∧ mR 67 = none := by decide +kernel
theorem q68_0 : qD 68 0 (.aload_n 0) 1 1 ∧ ((0 : Fin 4) : Nat) = 0 := by decide +kernel
theorem q68_1 : qG 68 1 22 4 8 3 154 0 := by decide +kernel
theorem q68_4 : qD 68 4 (.iconst (-1)) 1 5 ∧ Int32.ofInt (-1) = (-1 : Int32) := by decide +kernel
theorem q68_5 : qJ 68 5 (.if_icmp .ne 26) 8 (26) 31 := by decide +kernel
theorem q68_8 : qD 68 8 (.aload_n 0) 1 9 ∧ ((0 : Fin 4) : Nat) = 0 := by decide +kernel
theorem q68_9 : qG 68 9 19 12 8 2 153 0 := by decide +kernel
theorem q68_12 : qD 68 12 (.aload_n 0) 1 13 ∧ ((0 : Fin 4) : Nat) = 0 := by decide +kernel
theorem q68_13 : qG 68 13 15 16 8 1 152 0 := by decide +kernel
theorem q68_16 : qJ 68 16 (.if_icmp .ge 15) 19 (15) 31 := by decide +kernel
theorem q68_19 : qD 68 19 (.aload_n 0) 1 20 ∧ ((0 : Fin 4) : Nat) = 0 := by decide +kernel
theorem q68_20 : qG 68 20 9 23 8 0 150 2 := by decide +kernel
theorem q68_23 : qD 68 23 (.aload_n 0) 1 24 ∧ ((0 : Fin 4) : Nat) = 0 := by decide +kernel
theorem q68_24 : qG 68 24 19 27 8 2 153 0 := by decide +kernel
theorem q68_27 : qD 68 27 (.iaload) 1 28 := by decide +kernel
theorem q68_28 : qJ 68 28 (.goto 4) 31 (4) 32 := by decide +kernel
theorem q68_31 : qD 68 31 (.iconst (-1)) 1 32 ∧ Int32.ofInt (-1) = (-1 : Int32) := by decide +kernel
theorem q68_32 : qD 68 32 (.ireturn) 1 33 ∧ mR 68 = some .int := by decide +kernel
theorem q69_0 : qD 69 0 (.aload_n 0) 1 1 ∧ ((0 : Fin 4) : Nat) = 0 := by decide +kernel
theorem q69_1 : qG 69 1 19 4 8 2 153 0 := by decide +kernel
theorem q69_4 : qD 69 4 (.aload_n 0) 1 5 ∧ ((0 : Fin 4) : Nat) = 0 := by decide +kernel
theorem q69_5 : qG 69 5 15 8 8 1 152 0 := by decide +kernel
theorem q69_8 : qJ 69 8 (.if_icmp .ge 30) 11 (30) 38 := by decide +kernel
theorem q69_11 : qD 69 11 (.aload_n 0) 1 12 ∧ ((0 : Fin 4) : Nat) = 0 := by decide +kernel
theorem q69_12 : qG 69 12 9 15 8 0 150 2 := by decide +kernel
theorem q69_15 : qD 69 15 (.aload_n 0) 1 16 ∧ ((0 : Fin 4) : Nat) = 0 := by decide +kernel
theorem q69_16 : qG 69 16 19 19 8 2 153 0 := by decide +kernel
theorem q69_19 : qD 69 19 (.iaload) 1 20 := by decide +kernel
theorem q69_20 : qD 69 20 (.bipush 32) 2 22 ∧ (Int8.ofInt (32)).toInt32 = (32 : Int32) := by decide +kernel
theorem q69_22 : qJ 69 22 (.if_icmp .ne 16) 25 (16) 38 := by decide +kernel
theorem q69_25 : qD 69 25 (.aload_n 0) 1 26 ∧ ((0 : Fin 4) : Nat) = 0 := by decide +kernel
theorem q69_26 : qD 69 26 (.dup) 1 27 := by decide +kernel
theorem q69_27 : qG 69 27 19 30 8 2 153 0 := by decide +kernel
theorem q69_30 : qD 69 30 (.iconst 1) 1 31 ∧ Int32.ofInt (1) = (1 : Int32) := by decide +kernel
theorem q69_31 : qD 69 31 (.iadd) 1 32 := by decide +kernel
theorem q69_32 : qP 69 32 19 35 8 2 153 0 := by decide +kernel
theorem q69_35 : qJ 69 35 (.goto (-35)) 38 (-35) 0 := by decide +kernel
theorem q69_38 : qD 69 38 (.aload_n 0) 1 39 ∧ ((0 : Fin 4) : Nat) = 0 := by decide +kernel
theorem q69_39 : qD 69 39 (.invokevirtual 25) 3 42 ∧ qI 69 25 68 432 := by decide +kernel
theorem q69_42 : qD 69 42 (.ireturn) 1 43 ∧ mR 69 = some .int := by decide +kernel
theorem q70_0 : qD 70 0 (.aload_n 0) 1 1 ∧ ((0 : Fin 4) : Nat) = 0 := by decide +kernel
theorem q70_1 : qG 70 1 19 4 8 2 153 0 := by decide +kernel
theorem q70_4 : qD 70 4 (.aload_n 0) 1 5 ∧ ((0 : Fin 4) : Nat) = 0 := by decide +kernel
theorem q70_5 : qG 70 5 15 8 8 1 152 0 := by decide +kernel
theorem q70_8 : qJ 70 8 (.if_icmp .ge 13) 11 (13) 21 := by decide +kernel
theorem q70_11 : qD 70 11 (.aload_n 0) 1 12 ∧ ((0 : Fin 4) : Nat) = 0 := by decide +kernel
theorem q70_12 : qD 70 12 (.dup) 1 13 := by decide +kernel
theorem q70_13 : qG 70 13 19 16 8 2 153 0 := by decide +kernel
theorem q70_16 : qD 70 16 (.iconst 1) 1 17 ∧ Int32.ofInt (1) = (1 : Int32) := by decide +kernel
theorem q70_17 : qD 70 17 (.iadd) 1 18 := by decide +kernel
theorem q70_18 : qP 70 18 19 21 8 2 153 0 := by decide +kernel
theorem q70_21 : qD 70 21 (.return_) 1 22 ∧ mR 70 = none := by decide +kernel
theorem q71_0 : qD 71 0 (.aload_n 0) 1 1 ∧ ((0 : Fin 4) : Nat) = 0 := by decide +kernel
theorem q71_1 : qD 71 1 (.invokevirtual 29) 3 4 ∧ qI 71 29 69 463 := by decide +kernel
theorem q71_4 : qD 71 4 (.iload_n 1) 1 5 ∧ ((1 : Fin 4) : Nat) = 1 := by decide +kernel
theorem q71_5 : qJ 71 5 (.if_icmp .eq 5) 8 (5) 10 := by decide +kernel
theorem q71_8 : qD 71 8 (.iconst 0) 1 9 ∧ Int32.ofInt (0) = (0 : Int32) := by decide +kernel
theorem q71_9 : qD 71 9 (.ireturn) 1 10 ∧ mR 71 = some .boolean := by decide +kernel
theorem q71_10 : qD 71 10 (.aload_n 0) 1 11 ∧ ((0 : Fin 4) : Nat) = 0 := by decide +kernel
theorem q71_11 : qD 71 11 (.invokevirtual 32) 3 14 ∧ qI 71 32 70 556 := by decide +kernel
theorem q71_14 : qD 71 14 (.iconst 1) 1 15 ∧ Int32.ofInt (1) = (1 : Int32) := by decide +kernel
theorem q71_15 : qD 71 15 (.ireturn) 1 16 ∧ mR 71 = some .boolean := by decide +kernel
theorem q72_0 : qD 72 0 (.aload_n 0) 1 1 ∧ ((0 : Fin 4) : Nat) = 0 := by decide +kernel
theorem q72_1 : qD 72 1 (.iload_n 1) 1 2 ∧ ((1 : Fin 4) : Nat) = 1 := by decide +kernel
theorem q72_2 : qD 72 2 (.invokevirtual 35) 3 5 ∧ qI 72 35 71 595 := by decide +kernel
theorem q72_5 : qJ 72 5 (.ifCond .ne 11) 8 (11) 16 := by decide +kernel
theorem q72_8 : qD 72 8 (.aload_n 0) 1 9 ∧ ((0 : Fin 4) : Nat) = 0 := by decide +kernel
theorem q72_9 : qD 72 9 (.aload_n 0) 1 10 ∧ ((0 : Fin 4) : Nat) = 0 := by decide +kernel
theorem q72_10 : qG 72 10 19 13 8 2 153 0 := by decide +kernel
theorem q72_13 : qD 72 13 (.invokevirtual 39) 3 16 ∧ qI 72 39 75 545 := by decide +kernel
theorem q72_16 : qD 72 16 (.return_) 1 17 ∧ mR 72 = none := by decide +kernel
theorem q73_0 : qD 73 0 (.aload_n 0) 1 1 ∧ ((0 : Fin 4) : Nat) = 0 := by decide +kernel
theorem q73_1 : qD 73 1 (.invokevirtual 29) 3 4 ∧ qI 73 29 69 463 := by decide +kernel
theorem q73_4 : qD 73 4 (.iconst (-1)) 1 5 ∧ Int32.ofInt (-1) = (-1 : Int32) := by decide +kernel
theorem q73_5 : qJ 73 5 (.if_icmp .eq 11) 8 (11) 16 := by decide +kernel
theorem q73_8 : qD 73 8 (.aload_n 0) 1 9 ∧ ((0 : Fin 4) : Nat) = 0 := by decide +kernel
theorem q73_9 : qD 73 9 (.aload_n 0) 1 10 ∧ ((0 : Fin 4) : Nat) = 0 := by decide +kernel
theorem q73_10 : qG 73 10 19 13 8 2 153 0 := by decide +kernel
theorem q73_13 : qD 73 13 (.invokevirtual 39) 3 16 ∧ qI 73 39 75 545 := by decide +kernel
theorem q73_16 : qD 73 16 (.return_) 1 17 ∧ mR 73 = none := by decide +kernel
theorem q74_0 : qD 74 0 (.aload_n 0) 1 1 ∧ ((0 : Fin 4) : Nat) = 0 := by decide +kernel
theorem q74_1 : qD 74 1 (.invokevirtual 29) 3 4 ∧ qI 74 29 69 463 := by decide +kernel
theorem q74_4 : qD 74 4 (.pop) 1 5 := by decide +kernel
theorem q74_5 : qD 74 5 (.aload_n 0) 1 6 ∧ ((0 : Fin 4) : Nat) = 0 := by decide +kernel
theorem q74_6 : qD 74 6 (.aload_n 0) 1 7 ∧ ((0 : Fin 4) : Nat) = 0 := by decide +kernel
theorem q74_7 : qG 74 7 19 10 8 2 153 0 := by decide +kernel
theorem q74_10 : qD 74 10 (.invokevirtual 39) 3 13 ∧ qI 74 39 75 545 := by decide +kernel
theorem q74_13 : qD 74 13 (.return_) 1 14 ∧ mR 74 = none := by decide +kernel
theorem q75_0 : qD 75 0 (.aload_n 0) 1 1 ∧ ((0 : Fin 4) : Nat) = 0 := by decide +kernel
theorem q75_1 : qG 75 1 22 4 8 3 154 0 := by decide +kernel
theorem q75_4 : qD 75 4 (.iconst (-1)) 1 5 ∧ Int32.ofInt (-1) = (-1 : Int32) := by decide +kernel
theorem q75_5 : qJ 75 5 (.if_icmp .ne 8) 8 (8) 13 := by decide +kernel
theorem q75_8 : qD 75 8 (.aload_n 0) 1 9 ∧ ((0 : Fin 4) : Nat) = 0 := by decide +kernel
theorem q75_9 : qD 75 9 (.iload_n 1) 1 10 ∧ ((1 : Fin 4) : Nat) = 1 := by decide +kernel
theorem q75_10 : qP 75 10 22 13 8 3 154 0 := by decide +kernel
theorem q75_13 : qD 75 13 (.return_) 1 14 ∧ mR 75 = none := by decide +kernel
theorem q76_0 : qD 76 0 (.aload_n 0) 1 1 ∧ ((0 : Fin 4) : Nat) = 0 := by decide +kernel
theorem q76_1 : qD 76 1 (.invokevirtual 29) 3 4 ∧ qI 76 29 69 463 := by decide +kernel
theorem q76_4 : qD 76 4 (.istore_n 2) 1 5 ∧ ((2 : Fin 4) : Nat) = 2 ∧ 2 < mL 76 := by decide +kernel
theorem q76_5 : qD 76 5 (.iload_n 2) 1 6 ∧ ((2 : Fin 4) : Nat) = 2 := by decide +kernel
theorem q76_6 : qD 76 6 (.iconst (-1)) 1 7 ∧ Int32.ofInt (-1) = (-1 : Int32) := by decide +kernel
theorem q76_7 : qJ 76 7 (.if_icmp .ne 7) 10 (7) 14 := by decide +kernel
theorem q76_10 : qD 76 10 (.iconst (-1)) 1 11 ∧ Int32.ofInt (-1) = (-1 : Int32) := by decide +kernel
theorem q76_11 : qJ 76 11 (.goto 9) 14 (9) 20 := by decide +kernel
theorem q76_14 : qD 76 14 (.aload_n 1) 1 15 ∧ ((1 : Fin 4) : Nat) = 1 := by decide +kernel
theorem q76_15 : qD 76 15 (.iload_n 2) 1 16 ∧ ((2 : Fin 4) : Nat) = 2 := by decide +kernel
theorem q76_16 : qD 76 16 (.i2c) 1 17 := by decide +kernel
theorem q76_17 : qD 76 17 (.invokevirtual 43) 3 20 ∧ inG 464 (.methodLink (mN 76).cls 43 (mN 303)) ∧ mL 303 ≤ 41 ∧ (mN 303).cls = "java/lang/String" := by decide +kernel
theorem q76_20 : qD 76 20 (.ireturn) 1 21 ∧ mR 76 = some .int := by decide +kernel
theorem q77_0 : qD 77 0 (.aload_n 0) 1 1 ∧ ((0 : Fin 4) : Nat) = 0 := by decide +kernel
theorem q77_1 : qD 77 1 (.invokevirtual 29) 3 4 ∧ qI 77 29 69 463 := by decide +kernel
theorem q77_4 : qD 77 4 (.istore_n 1) 1 5 ∧ ((1 : Fin 4) : Nat) = 1 ∧ 1 < mL 77 := by decide +kernel
theorem q77_5 : qD 77 5 (.iload_n 1) 1 6 ∧ ((1 : Fin 4) : Nat) = 1 := by decide +kernel
theorem q77_6 : qD 77 6 (.invokestatic 49) 3 9 ∧ qI 77 49 79 553 := by decide +kernel
theorem q77_9 : qJ 77 9 (.ifCond .ne 13) 12 (13) 22 := by decide +kernel
theorem q77_12 : qD 77 12 (.aload_n 0) 1 13 ∧ ((0 : Fin 4) : Nat) = 0 := by decide +kernel
theorem q77_13 : qD 77 13 (.aload_n 0) 1 14 ∧ ((0 : Fin 4) : Nat) = 0 := by decide +kernel
theorem q77_14 : qG 77 14 19 17 8 2 153 0 := by decide +kernel
theorem q77_17 : qD 77 17 (.invokevirtual 39) 3 20 ∧ qI 77 39 75 545 := by decide +kernel
theorem q77_20 : qD 77 20 (.iconst 0) 1 21 ∧ Int32.ofInt (0) = (0 : Int32) := by decide +kernel
theorem q77_21 : qD 77 21 (.ireturn) 1 22 ∧ mR 77 = some .int := by decide +kernel
theorem q77_22 : qD 77 22 (.aload_n 0) 1 23 ∧ ((0 : Fin 4) : Nat) = 0 := by decide +kernel
theorem q77_23 : qD 77 23 (.invokevirtual 32) 3 26 ∧ qI 77 32 70 556 := by decide +kernel
theorem q77_26 : qD 77 26 (.iload_n 1) 1 27 ∧ ((1 : Fin 4) : Nat) = 1 := by decide +kernel
theorem q77_27 : qD 77 27 (.bipush 48) 2 29 ∧ (Int8.ofInt (48)).toInt32 = (48 : Int32) := by decide +kernel
theorem q77_29 : qD 77 29 (.isub) 1 30 := by decide +kernel
theorem q77_30 : qD 77 30 (.ireturn) 1 31 ∧ mR 77 = some .int := by decide +kernel
theorem q78_0 : qD 78 0 (.aload_n 0) 1 1 ∧ ((0 : Fin 4) : Nat) = 0 := by decide +kernel
theorem q78_1 : qD 78 1 (.invokevirtual 29) 3 4 ∧ qI 78 29 69 463 := by decide +kernel
theorem q78_4 : qD 78 4 (.istore 4) 2 6 ∧ 4 < mL 78 := by decide +kernel
theorem q78_6 : qD 78 6 (.iconst 0) 1 7 ∧ Int32.ofInt (0) = (0 : Int32) := by decide +kernel
theorem q78_7 : qD 78 7 (.istore 5) 2 9 ∧ 5 < mL 78 := by decide +kernel
theorem q78_9 : qD 78 9 (.iconst 0) 1 10 ∧ Int32.ofInt (0) = (0 : Int32) := by decide +kernel
theorem q78_10 : qD 78 10 (.istore 6) 2 12 ∧ 6 < mL 78 := by decide +kernel
theorem q78_12 : qD 78 12 (.iload 6) 2 14 := by decide +kernel
theorem q78_14 : qD 78 14 (.iload_n 1) 1 15 ∧ ((1 : Fin 4) : Nat) = 1 := by decide +kernel
theorem q78_15 : qJ 78 15 (.if_icmp .ge 40) 18 (40) 55 := by decide +kernel
theorem q78_18 : qD 78 18 (.iload 4) 2 20 := by decide +kernel
theorem q78_20 : qD 78 20 (.invokestatic 49) 3 23 ∧ qI 78 49 79 553 := by decide +kernel
theorem q78_23 : qJ 78 23 (.ifCond .eq 32) 26 (32) 55 := by decide +kernel
theorem q78_26 : qD 78 26 (.bipush 10) 2 28 ∧ (Int8.ofInt (10)).toInt32 = (10 : Int32) := by decide +kernel
theorem q78_28 : qD 78 28 (.iload 5) 2 30 := by decide +kernel
theorem q78_30 : qD 78 30 (.imul) 1 31 := by decide +kernel
theorem q78_31 : qD 78 31 (.iload 4) 2 33 := by decide +kernel
theorem q78_33 : qD 78 33 (.iadd) 1 34 := by decide +kernel
theorem q78_34 : qD 78 34 (.bipush 48) 2 36 ∧ (Int8.ofInt (48)).toInt32 = (48 : Int32) := by decide +kernel
theorem q78_36 : qD 78 36 (.isub) 1 37 := by decide +kernel
theorem q78_37 : qD 78 37 (.istore 5) 2 39 ∧ 5 < mL 78 := by decide +kernel
theorem q78_39 : qD 78 39 (.iinc 6 1) 3 42 ∧ 6 < mL 78 ∧ Int32.ofInt (1) = (1 : Int32) := by decide +kernel
theorem q78_42 : qD 78 42 (.aload_n 0) 1 43 ∧ ((0 : Fin 4) : Nat) = 0 := by decide +kernel
theorem q78_43 : qD 78 43 (.invokevirtual 32) 3 46 ∧ qI 78 32 70 556 := by decide +kernel
theorem q78_46 : qD 78 46 (.aload_n 0) 1 47 ∧ ((0 : Fin 4) : Nat) = 0 := by decide +kernel
theorem q78_47 : qD 78 47 (.invokevirtual 25) 3 50 ∧ qI 78 25 68 432 := by decide +kernel
theorem q78_50 : qD 78 50 (.istore 4) 2 52 ∧ 4 < mL 78 := by decide +kernel
theorem q78_52 : qJ 78 52 (.goto (-40)) 55 (-40) 12 := by decide +kernel
theorem q78_55 : qD 78 55 (.iload 6) 2 57 := by decide +kernel
theorem q78_57 : qJ 78 57 (.ifCond .eq 11) 60 (11) 68 := by decide +kernel
theorem q78_60 : qD 78 60 (.iload 4) 2 62 := by decide +kernel
theorem q78_62 : qD 78 62 (.invokestatic 49) 3 65 ∧ qI 78 49 79 553 := by decide +kernel
theorem q78_65 : qJ 78 65 (.ifCond .eq 14) 68 (14) 79 := by decide +kernel
theorem q78_68 : qD 78 68 (.aload_n 0) 1 69 ∧ ((0 : Fin 4) : Nat) = 0 := by decide +kernel
theorem q78_69 : qD 78 69 (.aload_n 0) 1 70 ∧ ((0 : Fin 4) : Nat) = 0 := by decide +kernel
theorem q78_70 : qG 78 70 19 73 8 2 153 0 := by decide +kernel
theorem q78_73 : qD 78 73 (.invokevirtual 39) 3 76 ∧ qI 78 39 75 545 := by decide +kernel
theorem q78_76 : qJ 78 76 (.goto 25) 79 (25) 101 := by decide +kernel
theorem q78_79 : qD 78 79 (.iload 5) 2 81 := by decide +kernel
theorem q78_81 : qD 78 81 (.iload_n 2) 1 82 ∧ ((2 : Fin 4) : Nat) = 2 := by decide +kernel
theorem q78_82 : qJ 78 82 (.if_icmp .lt 9) 85 (9) 91 := by decide +kernel
theorem q78_85 : qD 78 85 (.iload 5) 2 87 := by decide +kernel
theorem q78_87 : qD 78 87 (.iload_n 3) 1 88 ∧ ((3 : Fin 4) : Nat) = 3 := by decide +kernel
theorem q78_88 : qJ 78 88 (.if_icmp .le 13) 91 (13) 101 := by decide +kernel
theorem q78_91 : qD 78 91 (.aload_n 0) 1 92 ∧ ((0 : Fin 4) : Nat) = 0 := by decide +kernel
theorem q78_92 : qD 78 92 (.aload_n 0) 1 93 ∧ ((0 : Fin 4) : Nat) = 0 := by decide +kernel
theorem q78_93 : qG 78 93 19 96 8 2 153 0 := by decide +kernel
theorem q78_96 : qD 78 96 (.iconst 1) 1 97 ∧ Int32.ofInt (1) = (1 : Int32) := by decide +kernel
theorem q78_97 : qD 78 97 (.isub) 1 98 := by decide +kernel
theorem q78_98 : qD 78 98 (.invokevirtual 39) 3 101 ∧ qI 78 39 75 545 := by decide +kernel
theorem q78_101 : qD 78 101 (.iload 5) 2 103 := by decide +kernel
theorem q78_103 : qD 78 103 (.ireturn) 1 104 ∧ mR 78 = some .int := by decide +kernel
theorem q79_0 : qD 79 0 (.iload_n 0) 1 1 ∧ ((0 : Fin 4) : Nat) = 0 := by decide +kernel
theorem q79_1 : qD 79 1 (.bipush 48) 2 3 ∧ (Int8.ofInt (48)).toInt32 = (48 : Int32) := by decide +kernel
theorem q79_3 : qJ 79 3 (.if_icmp .lt 13) 6 (13) 16 := by decide +kernel
theorem q79_6 : qD 79 6 (.iload_n 0) 1 7 ∧ ((0 : Fin 4) : Nat) = 0 := by decide +kernel
theorem q79_7 : qD 79 7 (.bipush 57) 2 9 ∧ (Int8.ofInt (57)).toInt32 = (57 : Int32) := by decide +kernel
theorem q79_9 : qJ 79 9 (.if_icmp .gt 7) 12 (7) 16 := by decide +kernel
theorem q79_12 : qD 79 12 (.iconst 1) 1 13 ∧ Int32.ofInt (1) = (1 : Int32) := by decide +kernel
theorem q79_13 : qJ 79 13 (.goto 4) 16 (4) 17 := by decide +kernel
theorem q79_16 : qD 79 16 (.iconst 0) 1 17 ∧ Int32.ofInt (0) = (0 : Int32) := by decide +kernel
theorem q79_17 : qD 79 17 (.ireturn) 1 18 ∧ mR 79 = some .boolean := by decide +kernel
end
section
theorem q295_0 : qD 295 0 (.iload_n 0) 1 1 ∧ ((0 : Fin 4) : Nat) = 0 := by decide +kernel
theorem q295_1 : qD 295 1 (.iload_n 0) 1 2 ∧ ((0 : Fin 4) : Nat) = 0 := by decide +kernel
theorem q295_2 : qD 295 2 (.iconst 1) 1 3 ∧ Int32.ofInt (1) = (1 : Int32) := by decide +kernel
theorem q295_3 : qD 295 3 (.iushr) 1 4 := by decide +kernel
theorem q295_4 : qD 295 4 (.ldc_w 265) 3 7 ∧ inG 890 (.constant (mN 295).cls 265 (1431655765)) := by decide +kernel
theorem q295_7 : qD 295 7 (.iand) 1 8 := by decide +kernel
theorem q295_8 : qD 295 8 (.isub) 1 9 := by decide +kernel
theorem q295_9 : qD 295 9 (.istore_n 0) 1 10 ∧ ((0 : Fin 4) : Nat) = 0 ∧ 0 < mL 295 := by decide +kernel
theorem q295_10 : qD 295 10 (.iload_n 0) 1 11 ∧ ((0 : Fin 4) : Nat) = 0 := by decide +kernel
theorem q295_11 : qD 295 11 (.ldc_w 266) 3 14 ∧ inG 891 (.constant (mN 295).cls 266 (858993459)) := by decide +kernel
theorem q295_14 : qD 295 14 (.iand) 1 15 := by decide +kernel
theorem q295_15 : qD 295 15 (.iload_n 0) 1 16 ∧ ((0 : Fin 4) : Nat) = 0 := by decide +kernel
theorem q295_16 : qD 295 16 (.iconst 2) 1 17 ∧ Int32.ofInt (2) = (2 : Int32) := by decide +kernel
theorem q295_17 : qD 295 17 (.iushr) 1 18 := by decide +kernel
theorem q295_18 : qD 295 18 (.ldc_w 266) 3 21 ∧ inG 891 (.constant (mN 295).cls 266 (858993459)) := by decide +kernel
theorem q295_21 : qD 295 21 (.iand) 1 22 := by decide +kernel
theorem q295_22 : qD 295 22 (.iadd) 1 23 := by decide +kernel
theorem q295_23 : qD 295 23 (.istore_n 0) 1 24 ∧ ((0 : Fin 4) : Nat) = 0 ∧ 0 < mL 295 := by decide +kernel
theorem q295_24 : qD 295 24 (.iload_n 0) 1 25 ∧ ((0 : Fin 4) : Nat) = 0 := by decide +kernel
theorem q295_25 : qD 295 25 (.iload_n 0) 1 26 ∧ ((0 : Fin 4) : Nat) = 0 := by decide +kernel
theorem q295_26 : qD 295 26 (.iconst 4) 1 27 ∧ Int32.ofInt (4) = (4 : Int32) := by decide +kernel
theorem q295_27 : qD 295 27 (.iushr) 1 28 := by decide +kernel
theorem q295_28 : qD 295 28 (.iadd) 1 29 := by decide +kernel
theorem q295_29 : qD 295 29 (.ldc_w 267) 3 32 ∧ inG 892 (.constant (mN 295).cls 267 (252645135)) := by decide +kernel
theorem q295_32 : qD 295 32 (.iand) 1 33 := by decide +kernel
theorem q295_33 : qD 295 33 (.istore_n 0) 1 34 ∧ ((0 : Fin 4) : Nat) = 0 ∧ 0 < mL 295 := by decide +kernel
theorem q295_34 : qD 295 34 (.iload_n 0) 1 35 ∧ ((0 : Fin 4) : Nat) = 0 := by decide +kernel
theorem q295_35 : qD 295 35 (.iload_n 0) 1 36 ∧ ((0 : Fin 4) : Nat) = 0 := by decide +kernel
theorem q295_36 : qD 295 36 (.bipush 8) 2 38 ∧ (Int8.ofInt (8)).toInt32 = (8 : Int32) := by decide +kernel
theorem q295_38 : qD 295 38 (.iushr) 1 39 := by decide +kernel
theorem q295_39 : qD 295 39 (.iadd) 1 40 := by decide +kernel
theorem q295_40 : qD 295 40 (.istore_n 0) 1 41 ∧ ((0 : Fin 4) : Nat) = 0 ∧ 0 < mL 295 := by decide +kernel
theorem q295_41 : qD 295 41 (.iload_n 0) 1 42 ∧ ((0 : Fin 4) : Nat) = 0 := by decide +kernel
theorem q295_42 : qD 295 42 (.iload_n 0) 1 43 ∧ ((0 : Fin 4) : Nat) = 0 := by decide +kernel
theorem q295_43 : qD 295 43 (.bipush 16) 2 45 ∧ (Int8.ofInt (16)).toInt32 = (16 : Int32) := by decide +kernel
theorem q295_45 : qD 295 45 (.iushr) 1 46 := by decide +kernel
theorem q295_46 : qD 295 46 (.iadd) 1 47 := by decide +kernel
theorem q295_47 : qD 295 47 (.istore_n 0) 1 48 ∧ ((0 : Fin 4) : Nat) = 0 ∧ 0 < mL 295 := by decide +kernel
theorem q295_48 : qD 295 48 (.iload_n 0) 1 49 ∧ ((0 : Fin 4) : Nat) = 0 := by decide +kernel
theorem q295_49 : qD 295 49 (.bipush 63) 2 51 ∧ (Int8.ofInt (63)).toInt32 = (63 : Int32) := by decide +kernel
theorem q295_51 : qD 295 51 (.iand) 1 52 := by decide +kernel
theorem q295_52 : qD 295 52 (.ireturn) 1 53 ∧ mR 295 = some .int := by decide +kernel
theorem q301_0 : qD 301 0 (.aload_n 0) 1 1 ∧ ((0 : Fin 4) : Nat) = 0 := by decide +kernel
theorem q301_1 : qD 301 1 (.getfield 9) 3 4 ∧ inG 1954 (.fieldLink (mN 301).cls 9 "java/lang/String" "value" "[B") := by decide +kernel
theorem q301_4 : qD 301 4 (.arraylength) 1 5 := by decide +kernel
theorem q301_5 : qD 301 5 (.aload_n 0) 1 6 ∧ ((0 : Fin 4) : Nat) = 0 := by decide +kernel
theorem q301_6 : qD 301 6 (.invokevirtual 335) 3 9 ∧ inG 453 (.methodLink (mN 301).cls 335 (mN 305)) ∧ mL 305 ≤ 41 ∧ (mN 305).cls = "java/lang/String" := by decide +kernel
theorem q301_9 : qD 301 9 (.ishr) 1 10 := by decide +kernel
theorem q301_10 : qD 301 10 (.ireturn) 1 11 ∧ mR 301 = some .int := by decide +kernel
theorem q302_0 : qD 302 0 (.aload_n 0) 1 1 ∧ ((0 : Fin 4) : Nat) = 0 := by decide +kernel
theorem q302_1 : qD 302 1 (.invokevirtual 492) 3 4 ∧ inG 472 (.methodLink (mN 302).cls 492 (mN 306)) ∧ mL 306 ≤ 41 ∧ (mN 306).cls = "java/lang/String" := by decide +kernel
theorem q302_4 : qJ 302 4 (.ifCond .eq 12) 7 (12) 16 := by decide +kernel
theorem q302_7 : qD 302 7 (.aload_n 0) 1 8 ∧ ((0 : Fin 4) : Nat) = 0 := by decide +kernel
theorem q302_8 : qD 302 8 (.getfield 9) 3 11 ∧ inG 1954 (.fieldLink (mN 302).cls 9 "java/lang/String" "value" "[B") := by decide +kernel
theorem q302_11 : qD 302 11 (.iload_n 1) 1 12 ∧ ((1 : Fin 4) : Nat) = 1 := by decide +kernel
theorem q302_12 : qD 302 12 (.invokestatic 495) 3 15 ∧ qI 302 495 309 1474 := by decide +kernel
theorem q302_15 : qD 302 15 (.ireturn) 1 16 ∧ mR 302 = some .char := by decide +kernel
theorem q302_16 : qD 302 16 (.aload_n 0) 1 17 ∧ ((0 : Fin 4) : Nat) = 0 := by decide +kernel
theorem q302_17 : qD 302 17 (.getfield 9) 3 20 ∧ inG 1954 (.fieldLink (mN 302).cls 9 "java/lang/String" "value" "[B") := by decide +kernel
theorem q302_20 : qD 302 20 (.iload_n 1) 1 21 ∧ ((1 : Fin 4) : Nat) = 1 := by decide +kernel
theorem q302_21 : qD 302 21 (.invokestatic 498) 3 24 ∧ qI 302 498 319 1483 := by decide +kernel
theorem q302_24 : qD 302 24 (.ireturn) 1 25 ∧ mR 302 = some .char := by decide +kernel
theorem q303_0 : qD 303 0 (.aload_n 0) 1 1 ∧ ((0 : Fin 4) : Nat) = 0 := by decide +kernel
theorem q303_1 : qD 303 1 (.iload_n 1) 1 2 ∧ ((1 : Fin 4) : Nat) = 1 := by decide +kernel
theorem q303_2 : qD 303 2 (.iconst 0) 1 3 ∧ Int32.ofInt (0) = (0 : Int32) := by decide +kernel
theorem q303_3 : qD 303 3 (.invokevirtual 633) 3 6 ∧ inG 468 (.methodLink (mN 303).cls 633 (mN 304)) ∧ mL 304 ≤ 41 ∧ (mN 304).cls = "java/lang/String" := by decide +kernel
theorem q303_6 : qD 303 6 (.ireturn) 1 7 ∧ mR 303 = some .int := by decide +kernel
theorem q304_0 : qD 304 0 (.aload_n 0) 1 1 ∧ ((0 : Fin 4) : Nat) = 0 := by decide +kernel
theorem q304_1 : qD 304 1 (.invokevirtual 492) 3 4 ∧ inG 472 (.methodLink (mN 304).cls 492 (mN 306)) ∧ mL 306 ≤ 41 ∧ (mN 306).cls = "java/lang/String" := by decide +kernel
theorem q304_4 : qJ 304 4 (.ifCond .eq 19) 7 (19) 23 := by decide +kernel
theorem q304_7 : qD 304 7 (.aload_n 0) 1 8 ∧ ((0 : Fin 4) : Nat) = 0 := by decide +kernel
theorem q304_8 : qD 304 8 (.getfield 9) 3 11 ∧ inG 1954 (.fieldLink (mN 304).cls 9 "java/lang/String" "value" "[B") := by decide +kernel
theorem q304_11 : qD 304 11 (.iload_n 1) 1 12 ∧ ((1 : Fin 4) : Nat) = 1 := by decide +kernel
theorem q304_12 : qD 304 12 (.iload_n 2) 1 13 ∧ ((2 : Fin 4) : Nat) = 2 := by decide +kernel
theorem q304_13 : qD 304 13 (.aload_n 0) 1 14 ∧ ((0 : Fin 4) : Nat) = 0 := by decide +kernel
theorem q304_14 : qD 304 14 (.invokevirtual 505) 3 17 ∧ inG 476 (.methodLink (mN 304).cls 505 (mN 301)) ∧ mL 301 ≤ 41 ∧ (mN 301).cls = "java/lang/String" := by decide +kernel
theorem q304_17 : qD 304 17 (.invokestatic 637) 3 20 ∧ qI 304 637 311 477 := by decide +kernel
theorem q304_20 : qJ 304 20 (.goto 16) 23 (16) 36 := by decide +kernel
theorem q304_23 : qD 304 23 (.aload_n 0) 1 24 ∧ ((0 : Fin 4) : Nat) = 0 := by decide +kernel
theorem q304_24 : qD 304 24 (.getfield 9) 3 27 ∧ inG 1954 (.fieldLink (mN 304).cls 9 "java/lang/String" "value" "[B") := by decide +kernel
theorem q304_27 : qD 304 27 (.iload_n 1) 1 28 ∧ ((1 : Fin 4) : Nat) = 1 := by decide +kernel
theorem q304_28 : qD 304 28 (.iload_n 2) 1 29 ∧ ((2 : Fin 4) : Nat) = 2 := by decide +kernel
theorem q304_29 : qD 304 29 (.aload_n 0) 1 30 ∧ ((0 : Fin 4) : Nat) = 0 := by decide +kernel
theorem q304_30 : qD 304 30 (.invokevirtual 505) 3 33 ∧ inG 476 (.methodLink (mN 304).cls 505 (mN 301)) ∧ mL 301 ≤ 41 ∧ (mN 301).cls = "java/lang/String" := by decide +kernel
theorem q304_33 : qD 304 33 (.invokestatic 640) 3 36 ∧ qI 304 640 315 492 := by decide +kernel
theorem q304_36 : qD 304 36 (.ireturn) 1 37 ∧ mR 304 = some .int := by decide +kernel
theorem q305_0 : qD 305 0 (.getstatic 38) 3 3 ∧ inG 457 (.fieldLink (mN 305).cls 38 RJ0 "COMPACT_STRINGS" "Z") := by decide +kernel
theorem q305_3 : qJ 305 3 (.ifCond .eq 10) 6 (10) 13 := by decide +kernel
theorem q305_6 : qD 305 6 (.aload_n 0) 1 7 ∧ ((0 : Fin 4) : Nat) = 0 := by decide +kernel
theorem q305_7 : qD 305 7 (.getfield 15) 3 10 ∧ inG 1955 (.fieldLink (mN 305).cls 15 "java/lang/String" "coder" "B") := by decide +kernel
theorem q305_10 : qJ 305 10 (.goto 4) 13 (4) 14 := by decide +kernel
theorem q305_13 : qD 305 13 (.iconst 1) 1 14 ∧ Int32.ofInt (1) = (1 : Int32) := by decide +kernel
theorem q305_14 : qD 305 14 (.ireturn) 1 15 ∧ mR 305 = some .byte := by decide +kernel
theorem q306_0 : qD 306 0 (.getstatic 38) 3 3 ∧ inG 457 (.fieldLink (mN 306).cls 38 RJ0 "COMPACT_STRINGS" "Z") := by decide +kernel
theorem q306_3 : qJ 306 3 (.ifCond .eq 14) 6 (14) 17 := by decide +kernel
theorem q306_6 : qD 306 6 (.aload_n 0) 1 7 ∧ ((0 : Fin 4) : Nat) = 0 := by decide +kernel
theorem q306_7 : qD 306 7 (.getfield 15) 3 10 ∧ inG 1955 (.fieldLink (mN 306).cls 15 "java/lang/String" "coder" "B") := by decide +kernel
theorem q306_10 : qJ 306 10 (.ifCond .ne 7) 13 (7) 17 := by decide +kernel
theorem q306_13 : qD 306 13 (.iconst 1) 1 14 ∧ Int32.ofInt (1) = (1 : Int32) := by decide +kernel
theorem q306_14 : qJ 306 14 (.goto 4) 17 (4) 18 := by decide +kernel
theorem q306_17 : qD 306 17 (.iconst 0) 1 18 ∧ Int32.ofInt (0) = (0 : Int32) := by decide +kernel
theorem q306_18 : qD 306 18 (.ireturn) 1 19 ∧ mR 306 = some .boolean := by decide +kernel
theorem q307_0 : qD 307 0 (.iload_n 0) 1 1 ∧ ((0 : Fin 4) : Nat) = 0 := by decide +kernel
theorem q307_1 : qD 307 1 (.iload_n 1) 1 2 ∧ ((1 : Fin 4) : Nat) = 1 := by decide +kernel
theorem q307_2 : qD 307 2 (.getstatic 1053) 3 5 ∧ inG 510 (.fieldLink (mN 307).cls 1053 RJ3 "SIOOBE_FORMATTER" "Ljava/util/function/BiFunction;") := by decide +kernel
theorem q307_5 : qD 307 5 (.invokestatic 1059) 3 8 ∧ qI 307 1059 323 1480 := by decide +kernel
theorem q307_8 : qD 307 8 (.pop) 1 9 := by decide +kernel
theorem q307_9 : qD 307 9 (.return_) 1 10 ∧ mR 307 = none := by decide +kernel
theorem q309_0 : qD 309 0 (.iload_n 1) 1 1 ∧ ((1 : Fin 4) : Nat) = 1 := by decide +kernel
theorem q309_1 : qD 309 1 (.aload_n 0) 1 2 ∧ ((0 : Fin 4) : Nat) = 0 := by decide +kernel
theorem q309_2 : qD 309 2 (.arraylength) 1 3 := by decide +kernel
theorem q309_3 : qD 309 3 (.invokestatic 9) 3 6 ∧ qI 309 9 307 1477 := by decide +kernel
theorem q309_6 : qD 309 6 (.aload_n 0) 1 7 ∧ ((0 : Fin 4) : Nat) = 0 := by decide +kernel
theorem q309_7 : qD 309 7 (.iload_n 1) 1 8 ∧ ((1 : Fin 4) : Nat) = 1 := by decide +kernel
theorem q309_8 : qD 309 8 (.baload) 1 9 := by decide +kernel
theorem q309_9 : qD 309 9 (.sipush 255) 3 12 ∧ (Int16.ofInt (255)).toInt32 = (255 : Int32) := by decide +kernel
theorem q309_12 : qD 309 12 (.iand) 1 13 := by decide +kernel
theorem q309_13 : qD 309 13 (.i2c) 1 14 := by decide +kernel
theorem q309_14 : qD 309 14 (.ireturn) 1 15 ∧ mR 309 = some .char := by decide +kernel
theorem q310_0 : qD 310 0 (.iload_n 0) 1 1 ∧ ((0 : Fin 4) : Nat) = 0 := by decide +kernel
theorem q310_1 : qJ 310 1 (.ifCond .lt 14) 4 (14) 15 := by decide +kernel
theorem q310_4 : qD 310 4 (.iload_n 0) 1 5 ∧ ((0 : Fin 4) : Nat) = 0 := by decide +kernel
theorem q310_5 : qD 310 5 (.sipush 255) 3 8 ∧ (Int16.ofInt (255)).toInt32 = (255 : Int32) := by decide +kernel
theorem q310_8 : qJ 310 8 (.if_icmp .gt 7) 11 (7) 15 := by decide +kernel
theorem q310_11 : qD 310 11 (.iconst 1) 1 12 ∧ Int32.ofInt (1) = (1 : Int32) := by decide +kernel
theorem q310_12 : qJ 310 12 (.goto 4) 15 (4) 16 := by decide +kernel
theorem q310_15 : qD 310 15 (.iconst 0) 1 16 ∧ Int32.ofInt (0) = (0 : Int32) := by decide +kernel
theorem q310_16 : qD 310 16 (.ireturn) 1 17 ∧ mR 310 = some .boolean := by decide +kernel
theorem q311_0 : qD 311 0 (.iload_n 1) 1 1 ∧ ((1 : Fin 4) : Nat) = 1 := by decide +kernel
theorem q311_1 : qD 311 1 (.invokestatic 88) 3 4 ∧ qI 311 88 310 480 := by decide +kernel
theorem q311_4 : qJ 311 4 (.ifCond .ne 5) 7 (5) 9 := by decide +kernel
theorem q311_7 : qD 311 7 (.iconst (-1)) 1 8 ∧ Int32.ofInt (-1) = (-1 : Int32) := by decide +kernel
theorem q311_8 : qD 311 8 (.ireturn) 1 9 ∧ mR 311 = some .int := by decide +kernel
theorem q311_9 : qD 311 9 (.iload_n 2) 1 10 ∧ ((2 : Fin 4) : Nat) = 2 := by decide +kernel
theorem q311_10 : qD 311 10 (.iconst 0) 1 11 ∧ Int32.ofInt (0) = (0 : Int32) := by decide +kernel
theorem q311_11 : qD 311 11 (.invokestatic 92) 3 14 ∧ inG 483 (.methodLink (mN 311).cls 92 Lib.Math.max.name) := by decide +kernel
theorem q311_14 : qD 311 14 (.istore_n 2) 1 15 ∧ ((2 : Fin 4) : Nat) = 2 ∧ 2 < mL 311 := by decide +kernel
theorem q311_15 : qD 311 15 (.iload_n 3) 1 16 ∧ ((3 : Fin 4) : Nat) = 3 := by decide +kernel
theorem q311_16 : qD 311 16 (.aload_n 0) 1 17 ∧ ((0 : Fin 4) : Nat) = 0 := by decide +kernel
theorem q311_17 : qD 311 17 (.arraylength) 1 18 := by decide +kernel
theorem q311_18 : qD 311 18 (.invokestatic 38) 3 21 ∧ inG 486 (.methodLink (mN 311).cls 38 Lib.Math.min.name) := by decide +kernel
theorem q311_21 : qD 311 21 (.istore_n 3) 1 22 ∧ ((3 : Fin 4) : Nat) = 3 ∧ 3 < mL 311 := by decide +kernel
theorem q311_22 : qD 311 22 (.iload_n 2) 1 23 ∧ ((2 : Fin 4) : Nat) = 2 := by decide +kernel
theorem q311_23 : qD 311 23 (.iload_n 3) 1 24 ∧ ((3 : Fin 4) : Nat) = 3 := by decide +kernel
theorem q311_24 : qJ 311 24 (.if_icmp .lt 5) 27 (5) 29 := by decide +kernel
theorem q311_27 : qD 311 27 (.iconst (-1)) 1 28 ∧ Int32.ofInt (-1) = (-1 : Int32) := by decide +kernel
theorem q311_28 : qD 311 28 (.ireturn) 1 29 ∧ mR 311 = some .int := by decide +kernel
theorem q311_29 : qD 311 29 (.aload_n 0) 1 30 ∧ ((0 : Fin 4) : Nat) = 0 := by decide +kernel
theorem q311_30 : qD 311 30 (.iload_n 1) 1 31 ∧ ((1 : Fin 4) : Nat) = 1 := by decide +kernel
theorem q311_31 : qD 311 31 (.iload_n 2) 1 32 ∧ ((2 : Fin 4) : Nat) = 2 := by decide +kernel
theorem q311_32 : qD 311 32 (.iload_n 3) 1 33 ∧ ((3 : Fin 4) : Nat) = 3 := by decide +kernel
theorem q311_33 : qD 311 33 (.invokestatic 95) 3 36 ∧ qI 311 95 312 489 := by decide +kernel
theorem q311_36 : qD 311 36 (.ireturn) 1 37 ∧ mR 311 = some .int := by decide +kernel
theorem q312_0 : qD 312 0 (.iload_n 1) 1 1 ∧ ((1 : Fin 4) : Nat) = 1 := by decide +kernel
theorem q312_1 : qD 312 1 (.i2b) 1 2 := by decide +kernel
theorem q312_2 : qD 312 2 (.istore 4) 2 4 ∧ 4 < mL 312 := by decide +kernel
theorem q312_4 : qD 312 4 (.iload_n 2) 1 5 ∧ ((2 : Fin 4) : Nat) = 2 := by decide +kernel
theorem q312_5 : qD 312 5 (.istore 5) 2 7 ∧ 5 < mL 312 := by decide +kernel
theorem q312_7 : qD 312 7 (.iload 5) 2 9 := by decide +kernel
theorem q312_9 : qD 312 9 (.iload_n 3) 1 10 ∧ ((3 : Fin 4) : Nat) = 3 := by decide +kernel
theorem q312_10 : qJ 312 10 (.if_icmp .ge 21) 13 (21) 31 := by decide +kernel
theorem q312_13 : qD 312 13 (.aload_n 0) 1 14 ∧ ((0 : Fin 4) : Nat) = 0 := by decide +kernel
theorem q312_14 : qD 312 14 (.iload 5) 2 16 := by decide +kernel
theorem q312_16 : qD 312 16 (.baload) 1 17 := by decide +kernel
theorem q312_17 : qD 312 17 (.iload 4) 2 19 := by decide +kernel
theorem q312_19 : qJ 312 19 (.if_icmp .ne 6) 22 (6) 25 := by decide +kernel
theorem q312_22 : qD 312 22 (.iload 5) 2 24 := by decide +kernel
theorem q312_24 : qD 312 24 (.ireturn) 1 25 ∧ mR 312 = some .int := by decide +kernel
theorem q312_25 : qD 312 25 (.iinc 5 1) 3 28 ∧ 5 < mL 312 ∧ Int32.ofInt (1) = (1 : Int32) := by decide +kernel
theorem q312_28 : qJ 312 28 (.goto (-21)) 31 (-21) 7 := by decide +kernel
theorem q312_31 : qD 312 31 (.iconst (-1)) 1 32 ∧ Int32.ofInt (-1) = (-1 : Int32) := by decide +kernel
theorem q312_32 : qD 312 32 (.ireturn) 1 33 ∧ mR 312 = some .int := by decide +kernel
theorem q322_0 : qD 322 0 (.iconst 0) 1 1 ∧ Int32.ofInt (0) = (0 : Int32) := by decide +kernel
theorem q322_1 : qD 322 1 (.istore_n 2) 1 2 ∧ ((2 : Fin 4) : Nat) = 2 ∧ 2 < mL 322 := by decide +kernel
theorem q322_2 : qD 322 2 (.aload_n 0) 1 3 ∧ ((0 : Fin 4) : Nat) = 0 := by decide +kernel
theorem q322_3 : qD 322 3 (.arraylength) 1 4 := by decide +kernel
theorem q322_4 : qD 322 4 (.istore_n 3) 1 5 ∧ ((3 : Fin 4) : Nat) = 3 ∧ 3 < mL 322 := by decide +kernel
theorem q322_5 : qD 322 5 (.iload_n 2) 1 6 ∧ ((2 : Fin 4) : Nat) = 2 := by decide +kernel
theorem q322_6 : qD 322 6 (.iload_n 3) 1 7 ∧ ((3 : Fin 4) : Nat) = 3 := by decide +kernel
theorem q322_7 : qJ 322 7 (.if_icmp .ge 13) 10 (13) 20 := by decide +kernel
theorem q322_10 : qD 322 10 (.aload_n 0) 1 11 ∧ ((0 : Fin 4) : Nat) = 0 := by decide +kernel
theorem q322_11 : qD 322 11 (.iload_n 2) 1 12 ∧ ((2 : Fin 4) : Nat) = 2 := by decide +kernel
theorem q322_12 : qD 322 12 (.iload_n 1) 1 13 ∧ ((1 : Fin 4) : Nat) = 1 := by decide +kernel
theorem q322_13 : qD 322 13 (.iastore) 1 14 := by decide +kernel
theorem q322_14 : qD 322 14 (.iinc 2 1) 3 17 ∧ 2 < mL 322 ∧ Int32.ofInt (1) = (1 : Int32) := by decide +kernel
theorem q322_17 : qJ 322 17 (.goto (-12)) 20 (-12) 5 := by decide +kernel
theorem q322_20 : qD 322 20 (.return_) 1 21 ∧ mR 322 = none := by decide +kernel
theorem q323_0 : qD 323 0 (.iload_n 0) 1 1 ∧ ((0 : Fin 4) : Nat) = 0 := by decide +kernel
theorem q323_1 : qJ 323 1 (.ifCond .lt 8) 4 (8) 9 := by decide +kernel
theorem q323_4 : qD 323 4 (.iload_n 0) 1 5 ∧ ((0 : Fin 4) : Nat) = 0 := by decide +kernel
theorem q323_5 : qD 323 5 (.iload_n 1) 1 6 ∧ ((1 : Fin 4) : Nat) = 1 := by decide +kernel
theorem q323_6 : qJ 323 6 (.if_icmp .lt 10) 9 (10) 16 := by decide +kernel
theorem q323_9 : qD 323 9 (.aload_n 2) 1 10 ∧ ((2 : Fin 4) : Nat) = 2 := by decide +kernel
theorem q323_10 : qD 323 10 (.iload_n 0) 1 11 ∧ ((0 : Fin 4) : Nat) = 0 := by decide +kernel
theorem q323_11 : qD 323 11 (.iload_n 1) 1 12 ∧ ((1 : Fin 4) : Nat) = 1 := by decide +kernel
theorem q323_16 : qD 323 16 (.iload_n 0) 1 17 ∧ ((0 : Fin 4) : Nat) = 0 := by decide +kernel
theorem q323_17 : qD 323 17 (.ireturn) 1 18 ∧ mR 323 = some .int := by decide +kernel
end
section
theorem q0_0 : qD 0 0 (.aload_n 0) 1 1 ∧ ((0 : Fin 4) : Nat) = 0 := by decide +kernel
theorem q0_1 : qD 0 1 (.invokespecial 3) 3 4 ∧ inG 259 (.methodLink (mN 0).cls 3 Lib.objectInit) := by decide +kernel
theorem q0_4 : qD 0 4 (.aload_n 0) 1 5 ∧ ((0 : Fin 4) : Nat) = 0 := by decide +kernel
theorem q0_5 : qD 0 5 (.sipush 1320) 3 8 ∧ (Int16.ofInt (1320)).toInt32 = (1320 : Int32) := by decide +kernel
theorem q0_8 : qD 0 8 (.newarray .int) 2 10 ∧ (100 = 100 ∨ 100 = 101 ∨ 100 = 102 ∨ 100 = 103) ∧ newarray.typeOf .int = kty 100 ∧ inG 165 (.arrayClass (kty 100)) := by decide +kernel
theorem q0_10 : qP 0 10 9 13 0 0 260 2 := by decide +kernel
theorem q0_13 : qD 0 13 (.return_) 1 14 ∧ mR 0 = none := by decide +kernel
theorem q1_0 : qD 1 0 (.aload_n 0) 1 1 ∧ ((0 : Fin 4) : Nat) = 0 := by decide +kernel
theorem q1_1 : qD 1 1 (.iconst 0) 1 2 ∧ Int32.ofInt (0) = (0 : Int32) := by decide +kernel
theorem q1_2 : qP 1 2 15 5 0 2 262 0 := by decide +kernel
theorem q1_5 : qD 1 5 (.return_) 1 6 ∧ mR 1 = none := by decide +kernel
theorem q2_0 : qD 2 0 (.aload_n 1) 1 1 ∧ ((1 : Fin 4) : Nat) = 1 := by decide +kernel
theorem q2_1 : qG 2 1 19 4 7 0 239 2 := by decide +kernel
theorem q2_4 : qD 2 4 (.iconst 0) 1 5 ∧ Int32.ofInt (0) = (0 : Int32) := by decide +kernel
theorem q2_5 : qD 2 5 (.aload_n 0) 1 6 ∧ ((0 : Fin 4) : Nat) = 0 := by decide +kernel
theorem q2_6 : qG 2 6 9 9 0 0 260 2 := by decide +kernel
theorem q2_9 : qD 2 9 (.aload_n 0) 1 10 ∧ ((0 : Fin 4) : Nat) = 0 := by decide +kernel
theorem q2_10 : qG 2 10 24 13 0 1 261 0 := by decide +kernel
theorem q2_13 : qD 2 13 (.bipush 33) 2 15 ∧ (Int8.ofInt (33)).toInt32 = (33 : Int32) := by decide +kernel
theorem q2_15 : qD 2 15 (.imul) 1 16 := by decide +kernel
theorem q2_16 : qD 2 16 (.bipush 33) 2 18 ∧ (Int8.ofInt (33)).toInt32 = (33 : Int32) := by decide +kernel
theorem q2_18 : qD 2 18 (.invokestatic 27) 3 21 ∧ inG 794 (.methodLink (mN 2).cls 27 arraycopyName) := by decide +kernel
theorem q2_21 : qD 2 21 (.aload_n 0) 1 22 ∧ ((0 : Fin 4) : Nat) = 0 := by decide +kernel
theorem q2_22 : qD 2 22 (.aload_n 0) 1 23 ∧ ((0 : Fin 4) : Nat) = 0 := by decide +kernel
theorem q2_23 : qG 2 23 24 26 0 1 261 0 := by decide +kernel
theorem q2_26 : qD 2 26 (.iconst 1) 1 27 ∧ Int32.ofInt (1) = (1 : Int32) := by decide +kernel
theorem q2_27 : qD 2 27 (.iadd) 1 28 := by decide +kernel
theorem q2_28 : qD 2 28 (.bipush 40) 2 30 ∧ (Int8.ofInt (40)).toInt32 = (40 : Int32) := by decide +kernel
theorem q2_30 : qD 2 30 (.irem) 1 31 := by decide +kernel
theorem q2_31 : qP 2 31 24 34 0 1 261 0 := by decide +kernel
theorem q2_34 : qD 2 34 (.aload_n 0) 1 35 ∧ ((0 : Fin 4) : Nat) = 0 := by decide +kernel
theorem q2_35 : qD 2 35 (.aload_n 0) 1 36 ∧ ((0 : Fin 4) : Nat) = 0 := by decide +kernel
theorem q2_36 : qG 2 36 15 39 0 2 262 0 := by decide +kernel
theorem q2_39 : qD 2 39 (.iconst 1) 1 40 ∧ Int32.ofInt (1) = (1 : Int32) := by decide +kernel
theorem q2_40 : qD 2 40 (.iadd) 1 41 := by decide +kernel
theorem q2_41 : qD 2 41 (.bipush 40) 2 43 ∧ (Int8.ofInt (40)).toInt32 = (40 : Int32) := by decide +kernel
theorem q2_43 : qD 2 43 (.invokestatic 33) 3 46 ∧ inG 795 (.methodLink (mN 2).cls 33 Lib.Math.min.name) := by decide +kernel
theorem q2_46 : qP 2 46 15 49 0 2 262 0 := by decide +kernel
theorem q2_49 : qD 2 49 (.return_) 1 50 ∧ mR 2 = none := by decide +kernel
theorem q3_0 : qD 3 0 (.aload_n 0) 1 1 ∧ ((0 : Fin 4) : Nat) = 0 := by decide +kernel
theorem q3_1 : qG 3 1 15 4 0 2 262 0 := by decide +kernel
theorem q3_4 : qJ 3 4 (.ifCond .le 50) 7 (50) 54 := by decide +kernel
theorem q3_7 : qD 3 7 (.aload_n 0) 1 8 ∧ ((0 : Fin 4) : Nat) = 0 := by decide +kernel
theorem q3_8 : qD 3 8 (.aload_n 0) 1 9 ∧ ((0 : Fin 4) : Nat) = 0 := by decide +kernel
theorem q3_9 : qG 3 9 24 12 0 1 261 0 := by decide +kernel
theorem q3_12 : qD 3 12 (.bipush 40) 2 14 ∧ (Int8.ofInt (40)).toInt32 = (40 : Int32) := by decide +kernel
theorem q3_14 : qD 3 14 (.iadd) 1 15 := by decide +kernel
theorem q3_15 : qD 3 15 (.iconst 1) 1 16 ∧ Int32.ofInt (1) = (1 : Int32) := by decide +kernel
theorem q3_16 : qD 3 16 (.isub) 1 17 := by decide +kernel
theorem q3_17 : qD 3 17 (.bipush 40) 2 19 ∧ (Int8.ofInt (40)).toInt32 = (40 : Int32) := by decide +kernel
theorem q3_19 : qD 3 19 (.irem) 1 20 := by decide +kernel
theorem q3_20 : qP 3 20 24 23 0 1 261 0 := by decide +kernel
theorem q3_23 : qD 3 23 (.aload_n 0) 1 24 ∧ ((0 : Fin 4) : Nat) = 0 := by decide +kernel
theorem q3_24 : qD 3 24 (.dup) 1 25 := by decide +kernel
theorem q3_25 : qG 3 25 15 28 0 2 262 0 := by decide +kernel
theorem q3_28 : qD 3 28 (.iconst 1) 1 29 ∧ Int32.ofInt (1) = (1 : Int32) := by decide +kernel
theorem q3_29 : qD 3 29 (.isub) 1 30 := by decide +kernel
theorem q3_30 : qP 3 30 15 33 0 2 262 0 := by decide +kernel
theorem q3_33 : qD 3 33 (.aload_n 0) 1 34 ∧ ((0 : Fin 4) : Nat) = 0 := by decide +kernel
theorem q3_34 : qG 3 34 9 37 0 0 260 2 := by decide +kernel
theorem q3_37 : qD 3 37 (.aload_n 0) 1 38 ∧ ((0 : Fin 4) : Nat) = 0 := by decide +kernel
theorem q3_38 : qG 3 38 24 41 0 1 261 0 := by decide +kernel
theorem q3_41 : qD 3 41 (.bipush 33) 2 43 ∧ (Int8.ofInt (33)).toInt32 = (33 : Int32) := by decide +kernel
theorem q3_43 : qD 3 43 (.imul) 1 44 := by decide +kernel
theorem q3_44 : qD 3 44 (.aload_n 1) 1 45 ∧ ((1 : Fin 4) : Nat) = 1 := by decide +kernel
theorem q3_45 : qG 3 45 19 48 7 0 239 2 := by decide +kernel
theorem q3_48 : qD 3 48 (.iconst 0) 1 49 ∧ Int32.ofInt (0) = (0 : Int32) := by decide +kernel
theorem q3_49 : qD 3 49 (.bipush 33) 2 51 ∧ (Int8.ofInt (33)).toInt32 = (33 : Int32) := by decide +kernel
theorem q3_51 : qD 3 51 (.invokestatic 27) 3 54 ∧ inG 794 (.methodLink (mN 3).cls 27 arraycopyName) := by decide +kernel
theorem q3_54 : qD 3 54 (.return_) 1 55 ∧ mR 3 = none := by decide +kernel
theorem q4_0 : qD 4 0 (.aload_n 0) 1 1 ∧ ((0 : Fin 4) : Nat) = 0 := by decide +kernel
theorem q4_1 : qD 4 1 (.invokespecial 3) 3 4 ∧ inG 311 (.methodLink (mN 4).cls 3 Lib.objectInit) := by decide +kernel
theorem q4_4 : qD 4 4 (.return_) 1 5 ∧ mR 4 = none := by decide +kernel
theorem q5_0 : qD 5 0 (.aload_n 0) 1 1 ∧ ((0 : Fin 4) : Nat) = 0 := by decide +kernel
theorem q5_1 : qD 5 1 (.iconst 0) 1 2 ∧ Int32.ofInt (0) = (0 : Int32) := by decide +kernel
theorem q5_2 : qP 5 2 9 5 1 2 316 0 := by decide +kernel
theorem q5_5 : qD 5 5 (.return_) 1 6 ∧ mR 5 = none := by decide +kernel
theorem q6_0 : qD 6 0 (.aload_n 0) 1 1 ∧ ((0 : Fin 4) : Nat) = 0 := by decide +kernel
theorem q6_1 : qG 6 1 9 4 1 2 316 0 := by decide +kernel
theorem q6_4 : qJ 6 4 (.ifCond .ne 29) 7 (29) 33 := by decide +kernel
theorem q6_7 : qD 6 7 (.aload_n 0) 1 8 ∧ ((0 : Fin 4) : Nat) = 0 := by decide +kernel
theorem q6_8 : qD 6 8 (.ldc 17) 2 10 ∧ inG 1080 (.constant (mN 6).cls 17 (2147483647)) := by decide +kernel
theorem q6_10 : qP 6 10 18 13 1 0 312 0 := by decide +kernel
theorem q6_13 : qD 6 13 (.aload_n 0) 1 14 ∧ ((0 : Fin 4) : Nat) = 0 := by decide +kernel
theorem q6_14 : qD 6 14 (.iconst 0) 1 15 ∧ Int32.ofInt (0) = (0 : Int32) := by decide +kernel
theorem q6_15 : qP 6 15 22 18 1 1 314 0 := by decide +kernel
theorem q6_18 : qD 6 18 (.aload_n 0) 1 19 ∧ ((0 : Fin 4) : Nat) = 0 := by decide +kernel
theorem q6_19 : qD 6 19 (.aload_n 1) 1 20 ∧ ((1 : Fin 4) : Nat) = 1 := by decide +kernel
theorem q6_20 : qD 6 20 (.iconst 0) 1 21 ∧ Int32.ofInt (0) = (0 : Int32) := by decide +kernel
theorem q6_21 : qD 6 21 (.bipush 32) 2 23 ∧ (Int8.ofInt (32)).toInt32 = (32 : Int32) := by decide +kernel
theorem q6_23 : qD 6 23 (.iconst 0) 1 24 ∧ Int32.ofInt (0) = (0 : Int32) := by decide +kernel
theorem q6_24 : qD 6 24 (.iconst 0) 1 25 ∧ Int32.ofInt (0) = (0 : Int32) := by decide +kernel
theorem q6_25 : qD 6 25 (.invokevirtual 25) 3 28 ∧ qI 6 25 7 1081 := by decide +kernel
theorem q6_28 : qD 6 28 (.aload_n 0) 1 29 ∧ ((0 : Fin 4) : Nat) = 0 := by decide +kernel
theorem q6_29 : qD 6 29 (.iconst 1) 1 30 ∧ Int32.ofInt (1) = (1 : Int32) := by decide +kernel
theorem q6_30 : qP 6 30 9 33 1 2 316 0 := by decide +kernel
theorem q6_33 : qD 6 33 (.return_) 1 34 ∧ mR 6 = none := by decide +kernel
theorem q7_0 : qD 7 0 (.iload_n 2) 1 1 ∧ ((2 : Fin 4) : Nat) = 2 := by decide +kernel
theorem q7_1 : qD 7 1 (.aload_n 1) 1 2 ∧ ((1 : Fin 4) : Nat) = 1 := by decide +kernel
theorem q7_2 : qG 7 2 29 5 3 4 181 0 := by decide +kernel
theorem q7_5 : qJ 7 5 (.if_icmp .lt 16) 8 (16) 21 := by decide +kernel
theorem q7_8 : qD 7 8 (.aload_n 0) 1 9 ∧ ((0 : Fin 4) : Nat) = 0 := by decide +kernel
theorem q7_9 : qD 7 9 (.iload 4) 2 11 := by decide +kernel
theorem q7_11 : qP 7 11 18 14 1 0 312 0 := by decide +kernel
theorem q7_14 : qD 7 14 (.aload_n 0) 1 15 ∧ ((0 : Fin 4) : Nat) = 0 := by decide +kernel
theorem q7_15 : qD 7 15 (.iload 5) 2 17 := by decide +kernel
theorem q7_17 : qP 7 17 22 20 1 1 314 0 := by decide +kernel
theorem q7_20 : qD 7 20 (.return_) 1 21 ∧ mR 7 = none := by decide +kernel
theorem q7_21 : qD 7 21 (.aload_n 1) 1 22 ∧ ((1 : Fin 4) : Nat) = 1 := by decide +kernel
theorem q7_22 : qG 7 22 29 25 3 4 181 0 := by decide +kernel
theorem q7_25 : qD 7 25 (.iload_n 2) 1 26 ∧ ((2 : Fin 4) : Nat) = 2 := by decide +kernel
theorem q7_26 : qD 7 26 (.isub) 1 27 := by decide +kernel
theorem q7_27 : qD 7 27 (.iconst 1) 1 28 ∧ Int32.ofInt (1) = (1 : Int32) := by decide +kernel
theorem q7_28 : qD 7 28 (.isub) 1 29 := by decide +kernel
theorem q7_29 : qD 7 29 (.istore 6) 2 31 ∧ 6 < mL 7 := by decide +kernel
theorem q7_31 : qD 7 31 (.iconst 1) 1 32 ∧ Int32.ofInt (1) = (1 : Int32) := by decide +kernel
theorem q7_32 : qD 7 32 (.istore 7) 2 34 ∧ 7 < mL 7 := by decide +kernel
theorem q7_34 : qD 7 34 (.iload 7) 2 36 := by decide +kernel
theorem q7_36 : qD 7 36 (.iconst 5) 1 37 ∧ Int32.ofInt (5) = (5 : Int32) := by decide +kernel
theorem q7_37 : qJ 7 37 (.if_icmp .gt 67) 40 (67) 104 := by decide +kernel
theorem q7_40 : qD 7 40 (.iload_n 3) 1 41 ∧ ((3 : Fin 4) : Nat) = 3 := by decide +kernel
theorem q7_41 : qD 7 41 (.bipush 32) 2 43 ∧ (Int8.ofInt (32)).toInt32 = (32 : Int32) := by decide +kernel
theorem q7_43 : qD 7 43 (.iload 7) 2 45 := by decide +kernel
theorem q7_45 : qD 7 45 (.ishr) 1 46 := by decide +kernel
theorem q7_46 : qD 7 46 (.isub) 1 47 := by decide +kernel
theorem q7_47 : qD 7 47 (.istore 8) 2 49 ∧ 8 < mL 7 := by decide +kernel
theorem q7_49 : qD 7 49 (.iload 4) 2 51 := by decide +kernel
theorem q7_51 : qD 7 51 (.iload 7) 2 53 := by decide +kernel
theorem q7_53 : qD 7 53 (.aload_n 1) 1 54 ∧ ((1 : Fin 4) : Nat) = 1 := by decide +kernel
theorem q7_54 : qD 7 54 (.iload_n 2) 1 55 ∧ ((2 : Fin 4) : Nat) = 2 := by decide +kernel
theorem q7_55 : qD 7 55 (.invokevirtual 34) 3 58 ∧ qI 7 34 26 1085 := by decide +kernel
theorem q7_58 : qD 7 58 (.imul) 1 59 := by decide +kernel
theorem q7_59 : qD 7 59 (.iadd) 1 60 := by decide +kernel
theorem q7_60 : qD 7 60 (.istore 9) 2 62 ∧ 9 < mL 7 := by decide +kernel
theorem q7_62 : qD 7 62 (.iload 8) 2 64 := by decide +kernel
theorem q7_64 : qD 7 64 (.iload 6) 2 66 := by decide +kernel
theorem q7_66 : qJ 7 66 (.if_icmp .lt 32) 69 (32) 98 := by decide +kernel
theorem q7_69 : qD 7 69 (.iload 9) 2 71 := by decide +kernel
theorem q7_71 : qD 7 71 (.aload_n 0) 1 72 ∧ ((0 : Fin 4) : Nat) = 0 := by decide +kernel
theorem q7_72 : qG 7 72 18 75 1 0 312 0 := by decide +kernel
theorem q7_75 : qJ 7 75 (.if_icmp .ge 23) 78 (23) 98 := by decide +kernel
theorem q7_78 : qD 7 78 (.aload_n 0) 1 79 ∧ ((0 : Fin 4) : Nat) = 0 := by decide +kernel
theorem q7_79 : qD 7 79 (.aload_n 1) 1 80 ∧ ((1 : Fin 4) : Nat) = 1 := by decide +kernel
theorem q7_80 : qD 7 80 (.iload_n 2) 1 81 ∧ ((2 : Fin 4) : Nat) = 2 := by decide +kernel
theorem q7_81 : qD 7 81 (.iconst 1) 1 82 ∧ Int32.ofInt (1) = (1 : Int32) := by decide +kernel
theorem q7_82 : qD 7 82 (.iadd) 1 83 := by decide +kernel
theorem q7_83 : qD 7 83 (.iload 8) 2 85 := by decide +kernel
theorem q7_85 : qD 7 85 (.iload 9) 2 87 := by decide +kernel
theorem q7_87 : qD 7 87 (.bipush 10) 2 89 ∧ (Int8.ofInt (10)).toInt32 = (10 : Int32) := by decide +kernel
theorem q7_89 : qD 7 89 (.iload 5) 2 91 := by decide +kernel
theorem q7_91 : qD 7 91 (.imul) 1 92 := by decide +kernel
theorem q7_92 : qD 7 92 (.iload 7) 2 94 := by decide +kernel
theorem q7_94 : qD 7 94 (.iadd) 1 95 := by decide +kernel
theorem q7_95 : qD 7 95 (.invokevirtual 25) 3 98 ∧ qI 7 25 7 1081 := by decide +kernel
theorem q7_98 : qD 7 98 (.iinc 7 1) 3 101 ∧ 7 < mL 7 ∧ Int32.ofInt (1) = (1 : Int32) := by decide +kernel
theorem q7_101 : qJ 7 101 (.goto (-67)) 104 (-67) 34 := by decide +kernel
theorem q7_104 : qD 7 104 (.return_) 1 105 ∧ mR 7 = none := by decide +kernel
theorem q8_0 : qD 8 0 (.aload_n 0) 1 1 ∧ ((0 : Fin 4) : Nat) = 0 := by decide +kernel
theorem q8_1 : qD 8 1 (.invokespecial 3) 3 4 ∧ inG 249 (.methodLink (mN 8).cls 3 Lib.objectInit) := by decide +kernel
theorem q8_4 : qD 8 4 (.aload_n 0) 1 5 ∧ ((0 : Fin 4) : Nat) = 0 := by decide +kernel
theorem q8_5 : qD 8 5 (.sipush 300) 3 8 ∧ (Int16.ofInt (300)).toInt32 = (300 : Int32) := by decide +kernel
theorem q8_8 : qD 8 8 (.newarray .int) 2 10 ∧ (100 = 100 ∨ 100 = 101 ∨ 100 = 102 ∨ 100 = 103) ∧ newarray.typeOf .int = kty 100 ∧ inG 165 (.arrayClass (kty 100)) := by decide +kernel
theorem q8_10 : qP 8 10 11 13 2 0 250 2 := by decide +kernel
theorem q8_13 : qD 8 13 (.return_) 1 14 ∧ mR 8 = none := by decide +kernel
theorem q9_0 : qD 9 0 (.aload_n 1) 1 1 ∧ ((1 : Fin 4) : Nat) = 1 := by decide +kernel
theorem q9_1 : qG 9 1 15 4 7 0 237 2 := by decide +kernel
theorem q9_4 : qD 9 4 (.bipush 32) 2 6 ∧ (Int8.ofInt (32)).toInt32 = (32 : Int32) := by decide +kernel
theorem q9_6 : qD 9 6 (.iaload) 1 7 := by decide +kernel
theorem q9_7 : qD 9 7 (.bipush 100) 2 9 ∧ (Int8.ofInt (100)).toInt32 = (100 : Int32) := by decide +kernel
theorem q9_9 : qD 9 9 (.irem) 1 10 := by decide +kernel
theorem q9_10 : qD 9 10 (.iconst 3) 1 11 ∧ Int32.ofInt (3) = (3 : Int32) := by decide +kernel
theorem q9_11 : qD 9 11 (.imul) 1 12 := by decide +kernel
theorem q9_12 : qD 9 12 (.istore_n 2) 1 13 ∧ ((2 : Fin 4) : Nat) = 2 ∧ 2 < mL 9 := by decide +kernel
theorem q9_13 : qD 9 13 (.aload_n 0) 1 14 ∧ ((0 : Fin 4) : Nat) = 0 := by decide +kernel
theorem q9_14 : qG 9 14 11 17 2 0 250 2 := by decide +kernel
theorem q9_17 : qD 9 17 (.iload_n 2) 1 18 ∧ ((2 : Fin 4) : Nat) = 2 := by decide +kernel
theorem q9_18 : qD 9 18 (.aload_n 1) 1 19 ∧ ((1 : Fin 4) : Nat) = 1 := by decide +kernel
theorem q9_19 : qG 9 19 15 22 7 0 237 2 := by decide +kernel
theorem q9_22 : qD 9 22 (.bipush 28) 2 24 ∧ (Int8.ofInt (28)).toInt32 = (28 : Int32) := by decide +kernel
theorem q9_24 : qD 9 24 (.iaload) 1 25 := by decide +kernel
theorem q9_25 : qD 9 25 (.iastore) 1 26 := by decide +kernel
theorem q9_26 : qD 9 26 (.aload_n 0) 1 27 ∧ ((0 : Fin 4) : Nat) = 0 := by decide +kernel
theorem q9_27 : qG 9 27 11 30 2 0 250 2 := by decide +kernel
theorem q9_30 : qD 9 30 (.iload_n 2) 1 31 ∧ ((2 : Fin 4) : Nat) = 2 := by decide +kernel
theorem q9_31 : qD 9 31 (.iconst 1) 1 32 ∧ Int32.ofInt (1) = (1 : Int32) := by decide +kernel
theorem q9_32 : qD 9 32 (.iadd) 1 33 := by decide +kernel
theorem q9_33 : qD 9 33 (.aload_n 1) 1 34 ∧ ((1 : Fin 4) : Nat) = 1 := by decide +kernel
theorem q9_34 : qG 9 34 15 37 7 0 237 2 := by decide +kernel
theorem q9_37 : qD 9 37 (.bipush 29) 2 39 ∧ (Int8.ofInt (29)).toInt32 = (29 : Int32) := by decide +kernel
theorem q9_39 : qD 9 39 (.iaload) 1 40 := by decide +kernel
theorem q9_40 : qD 9 40 (.iastore) 1 41 := by decide +kernel
theorem q9_41 : qD 9 41 (.aload_n 0) 1 42 ∧ ((0 : Fin 4) : Nat) = 0 := by decide +kernel
theorem q9_42 : qG 9 42 11 45 2 0 250 2 := by decide +kernel
theorem q9_45 : qD 9 45 (.iload_n 2) 1 46 ∧ ((2 : Fin 4) : Nat) = 2 := by decide +kernel
theorem q9_46 : qD 9 46 (.iconst 2) 1 47 ∧ Int32.ofInt (2) = (2 : Int32) := by decide +kernel
theorem q9_47 : qD 9 47 (.iadd) 1 48 := by decide +kernel
theorem q9_48 : qD 9 48 (.aload_n 1) 1 49 ∧ ((1 : Fin 4) : Nat) = 1 := by decide +kernel
theorem q9_49 : qG 9 49 15 52 7 0 237 2 := by decide +kernel
theorem q9_52 : qD 9 52 (.bipush 31) 2 54 ∧ (Int8.ofInt (31)).toInt32 = (31 : Int32) := by decide +kernel
theorem q9_54 : qD 9 54 (.iaload) 1 55 := by decide +kernel
theorem q9_55 : qD 9 55 (.iastore) 1 56 := by decide +kernel
theorem q9_56 : qD 9 56 (.return_) 1 57 ∧ mR 9 = none := by decide +kernel
theorem q10_0 : qD 10 0 (.aload_n 0) 1 1 ∧ ((0 : Fin 4) : Nat) = 0 := by decide +kernel
theorem q10_1 : qG 10 1 11 4 2 0 250 2 := by decide +kernel
theorem q10_4 : qD 10 4 (.iload_n 1) 1 5 ∧ ((1 : Fin 4) : Nat) = 1 := by decide +kernel
theorem q10_5 : qD 10 5 (.bipush 100) 2 7 ∧ (Int8.ofInt (100)).toInt32 = (100 : Int32) := by decide +kernel
theorem q10_7 : qD 10 7 (.irem) 1 8 := by decide +kernel
theorem q10_8 : qD 10 8 (.iconst 3) 1 9 ∧ Int32.ofInt (3) = (3 : Int32) := by decide +kernel
theorem q10_9 : qD 10 9 (.imul) 1 10 := by decide +kernel
theorem q10_10 : qD 10 10 (.iload_n 2) 1 11 ∧ ((2 : Fin 4) : Nat) = 2 := by decide +kernel
theorem q10_11 : qD 10 11 (.iadd) 1 12 := by decide +kernel
theorem q10_12 : qD 10 12 (.iaload) 1 13 := by decide +kernel
theorem q10_13 : qD 10 13 (.ireturn) 1 14 ∧ mR 10 = some .int := by decide +kernel
theorem q11_0 : qD 11 0 (.aload_n 1) 1 1 ∧ ((1 : Fin 4) : Nat) = 1 := by decide +kernel
theorem q11_1 : qG 11 1 11 4 2 0 250 2 := by decide +kernel
theorem q11_4 : qD 11 4 (.iconst 0) 1 5 ∧ Int32.ofInt (0) = (0 : Int32) := by decide +kernel
theorem q11_5 : qD 11 5 (.aload_n 0) 1 6 ∧ ((0 : Fin 4) : Nat) = 0 := by decide +kernel
theorem q11_6 : qG 11 6 11 9 2 0 250 2 := by decide +kernel
theorem q11_9 : qD 11 9 (.iconst 0) 1 10 ∧ Int32.ofInt (0) = (0 : Int32) := by decide +kernel
theorem q11_10 : qD 11 10 (.aload_n 0) 1 11 ∧ ((0 : Fin 4) : Nat) = 0 := by decide +kernel
theorem q11_11 : qG 11 11 11 14 2 0 250 2 := by decide +kernel
theorem q11_14 : qD 11 14 (.arraylength) 1 15 := by decide +kernel
theorem q11_15 : qD 11 15 (.invokestatic 20) 3 18 ∧ inG 966 (.methodLink (mN 11).cls 20 arraycopyName) := by decide +kernel
theorem q11_18 : qD 11 18 (.return_) 1 19 ∧ mR 11 = none := by decide +kernel
theorem q12_0 : qD 12 0 (.aload_n 0) 1 1 ∧ ((0 : Fin 4) : Nat) = 0 := by decide +kernel
theorem q12_1 : qD 12 1 (.invokespecial 3) 3 4 ∧ inG 171 (.methodLink (mN 12).cls 3 Lib.objectInit) := by decide +kernel
theorem q12_4 : qD 12 4 (.aload_n 0) 1 5 ∧ ((0 : Fin 4) : Nat) = 0 := by decide +kernel
theorem q12_5 : qD 12 5 (.iconst 4) 1 6 ∧ Int32.ofInt (4) = (4 : Int32) := by decide +kernel
theorem q12_6 : qD 12 6 (.newarray .int) 2 8 ∧ (100 = 100 ∨ 100 = 101 ∨ 100 = 102 ∨ 100 = 103) ∧ newarray.typeOf .int = kty 100 ∧ inG 165 (.arrayClass (kty 100)) := by decide +kernel
theorem q12_8 : qP 12 8 9 11 3 0 172 2 := by decide +kernel
theorem q12_11 : qD 12 11 (.aload_n 0) 1 12 ∧ ((0 : Fin 4) : Nat) = 0 := by decide +kernel
theorem q12_12 : qD 12 12 (.bipush 35) 2 14 ∧ (Int8.ofInt (35)).toInt32 = (35 : Int32) := by decide +kernel
theorem q12_14 : qD 12 14 (.newarray .int) 2 16 ∧ (100 = 100 ∨ 100 = 101 ∨ 100 = 102 ∨ 100 = 103) ∧ newarray.typeOf .int = kty 100 ∧ inG 165 (.arrayClass (kty 100)) := by decide +kernel
theorem q12_16 : qP 12 16 15 19 3 1 174 2 := by decide +kernel
theorem q12_19 : qD 12 19 (.aload_n 0) 1 20 ∧ ((0 : Fin 4) : Nat) = 0 := by decide +kernel
theorem q12_20 : qD 12 20 (.bipush 12) 2 22 ∧ (Int8.ofInt (12)).toInt32 = (12 : Int32) := by decide +kernel
theorem q12_22 : qD 12 22 (.newarray .int) 2 24 ∧ (100 = 100 ∨ 100 = 101 ∨ 100 = 102 ∨ 100 = 103) ∧ newarray.typeOf .int = kty 100 ∧ inG 165 (.arrayClass (kty 100)) := by decide +kernel
theorem q12_24 : qP 12 24 18 27 3 2 175 2 := by decide +kernel
theorem q12_27 : qD 12 27 (.return_) 1 28 ∧ mR 12 = none := by decide +kernel
theorem q13_0 : qD 13 0 (.aload_n 0) 1 1 ∧ ((0 : Fin 4) : Nat) = 0 := by decide +kernel
theorem q13_1 : qD 13 1 (.iconst 0) 1 2 ∧ Int32.ofInt (0) = (0 : Int32) := by decide +kernel
theorem q13_2 : qP 13 2 21 5 3 3 176 0 := by decide +kernel
theorem q13_5 : qD 13 5 (.aload_n 0) 1 6 ∧ ((0 : Fin 4) : Nat) = 0 := by decide +kernel
theorem q13_6 : qD 13 6 (.iconst 0) 1 7 ∧ Int32.ofInt (0) = (0 : Int32) := by decide +kernel
theorem q13_7 : qP 13 7 25 10 3 4 180 0 := by decide +kernel
theorem q13_10 : qD 13 10 (.aload_n 0) 1 11 ∧ ((0 : Fin 4) : Nat) = 0 := by decide +kernel
theorem q13_11 : qD 13 11 (.iconst 0) 1 12 ∧ Int32.ofInt (0) = (0 : Int32) := by decide +kernel
theorem q13_12 : qP 13 12 28 15 3 5 184 0 := by decide +kernel
theorem q13_15 : qD 13 15 (.getstatic 32) 3 18 ∧ cS[0]? = some ("RULE_USUAL", (cS.getD 0 ("", [])).2) ∧ inN 419 (.fieldLinkNest (mN 13).cls 32 RX10 "RULE_USUAL" "[I" "OneWindow") := by decide +kernel
theorem q13_18 : qD 13 18 (.iconst 0) 1 19 ∧ Int32.ofInt (0) = (0 : Int32) := by decide +kernel
theorem q13_19 : qD 13 19 (.aload_n 0) 1 20 ∧ ((0 : Fin 4) : Nat) = 0 := by decide +kernel
theorem q13_20 : qG 13 20 9 23 3 0 172 2 := by decide +kernel
theorem q13_23 : qD 13 23 (.iconst 0) 1 24 ∧ Int32.ofInt (0) = (0 : Int32) := by decide +kernel
theorem q13_24 : qD 13 24 (.iconst 4) 1 25 ∧ Int32.ofInt (4) = (4 : Int32) := by decide +kernel
theorem q13_25 : qD 13 25 (.invokestatic 35) 3 28 ∧ inG 421 (.methodLink (mN 13).cls 35 arraycopyName) := by decide +kernel
theorem q13_28 : qD 13 28 (.iconst 0) 1 29 ∧ Int32.ofInt (0) = (0 : Int32) := by decide +kernel
theorem q13_29 : qD 13 29 (.istore_n 2) 1 30 ∧ ((2 : Fin 4) : Nat) = 2 ∧ 2 < mL 13 := by decide +kernel
theorem q13_30 : qD 13 30 (.iload_n 2) 1 31 ∧ ((2 : Fin 4) : Nat) = 2 := by decide +kernel
theorem q13_31 : qD 13 31 (.sipush 240) 3 34 ∧ (Int16.ofInt (240)).toInt32 = (240 : Int32) := by decide +kernel
theorem q13_34 : qJ 13 34 (.if_icmp .ge 26) 37 (26) 60 := by decide +kernel
theorem q13_37 : qD 13 37 (.aload_n 0) 1 38 ∧ ((0 : Fin 4) : Nat) = 0 := by decide +kernel
theorem q13_38 : qD 13 38 (.aload_n 1) 1 39 ∧ ((1 : Fin 4) : Nat) = 1 := by decide +kernel
theorem q13_39 : qD 13 39 (.invokevirtual 41) 3 42 ∧ qI 13 41 14 424 := by decide +kernel
theorem q13_42 : qD 13 42 (.aload_n 1) 1 43 ∧ ((1 : Fin 4) : Nat) = 1 := by decide +kernel
theorem q13_43 : qD 13 43 (.bipush 59) 2 45 ∧ (Int8.ofInt (59)).toInt32 = (59 : Int32) := by decide +kernel
theorem q13_45 : qD 13 45 (.invokevirtual 45) 3 48 ∧ qI 13 45 71 571 := by decide +kernel
theorem q13_48 : qJ 13 48 (.ifCond .ne 6) 51 (6) 54 := by decide +kernel
theorem q13_51 : qJ 13 51 (.goto 9) 54 (9) 60 := by decide +kernel
theorem q13_54 : qD 13 54 (.iinc 2 1) 3 57 ∧ 2 < mL 13 ∧ Int32.ofInt (1) = (1 : Int32) := by decide +kernel
theorem q13_57 : qJ 13 57 (.goto (-27)) 60 (-27) 30 := by decide +kernel
theorem q13_60 : qD 13 60 (.aload_n 1) 1 61 ∧ ((1 : Fin 4) : Nat) = 1 := by decide +kernel
theorem q13_61 : qD 13 61 (.invokevirtual 51) 3 64 ∧ qI 13 51 73 575 := by decide +kernel
theorem q13_64 : qD 13 64 (.aload_n 0) 1 65 ∧ ((0 : Fin 4) : Nat) = 0 := by decide +kernel
theorem q13_65 : qG 13 65 21 68 3 3 176 0 := by decide +kernel
theorem q13_68 : qD 13 68 (.iconst 2) 1 69 ∧ Int32.ofInt (2) = (2 : Int32) := by decide +kernel
theorem q13_69 : qJ 13 69 (.if_icmp .lt 22) 72 (22) 91 := by decide +kernel
theorem q13_72 : qD 13 72 (.aload_n 0) 1 73 ∧ ((0 : Fin 4) : Nat) = 0 := by decide +kernel
theorem q13_73 : qG 13 73 25 76 3 4 180 0 := by decide +kernel
theorem q13_76 : qD 13 76 (.iconst 1) 1 77 ∧ Int32.ofInt (1) = (1 : Int32) := by decide +kernel
theorem q13_77 : qJ 13 77 (.if_icmp .lt 14) 80 (14) 91 := by decide +kernel
theorem q13_80 : qD 13 80 (.aload_n 0) 1 81 ∧ ((0 : Fin 4) : Nat) = 0 := by decide +kernel
theorem q13_81 : qD 13 81 (.invokevirtual 54) 3 84 ∧ qI 13 54 16 579 := by decide +kernel
theorem q13_84 : qD 13 84 (.aload_n 0) 1 85 ∧ ((0 : Fin 4) : Nat) = 0 := by decide +kernel
theorem q13_85 : qG 13 85 21 88 3 3 176 0 := by decide +kernel
theorem q13_88 : qJ 13 88 (.if_icmp .lt 7) 91 (7) 95 := by decide +kernel
theorem q13_91 : qD 13 91 (.aload_n 1) 1 92 ∧ ((1 : Fin 4) : Nat) = 1 := by decide +kernel
theorem q13_92 : qD 13 92 (.invokevirtual 58) 3 95 ∧ qI 13 58 74 541 := by decide +kernel
theorem q13_95 : qD 13 95 (.return_) 1 96 ∧ mR 13 = none := by decide +kernel
theorem q14_0 : qD 14 0 (.aload_n 1) 1 1 ∧ ((1 : Fin 4) : Nat) = 1 := by decide +kernel
theorem q14_1 : qD 14 1 (.invokevirtual 61) 3 4 ∧ qI 14 61 69 428 := by decide +kernel
theorem q14_4 : qD 14 4 (.istore_n 2) 1 5 ∧ ((2 : Fin 4) : Nat) = 2 ∧ 2 < mL 14 := by decide +kernel
theorem q14_5 : qD 14 5 (.iload_n 2) 1 6 ∧ ((2 : Fin 4) : Nat) = 2 := by decide +kernel
theorem q14_6 : qD 14 6 (.bipush 115) 2 8 ∧ (Int8.ofInt (115)).toInt32 = (115 : Int32) := by decide +kernel
theorem q14_8 : qJ 14 8 (.if_icmp .ne 40) 11 (40) 48 := by decide +kernel
theorem q14_11 : qD 14 11 (.aload_n 0) 1 12 ∧ ((0 : Fin 4) : Nat) = 0 := by decide +kernel
theorem q14_12 : qG 14 12 28 15 3 5 184 0 := by decide +kernel
theorem q14_15 : qJ 14 15 (.ifCond .ne 33) 18 (33) 48 := by decide +kernel
theorem q14_18 : qD 14 18 (.aload_n 0) 1 19 ∧ ((0 : Fin 4) : Nat) = 0 := by decide +kernel
theorem q14_19 : qD 14 19 (.iconst 1) 1 20 ∧ Int32.ofInt (1) = (1 : Int32) := by decide +kernel
theorem q14_20 : qP 14 20 28 23 3 5 184 0 := by decide +kernel
theorem q14_23 : qD 14 23 (.aload_n 1) 1 24 ∧ ((1 : Fin 4) : Nat) = 1 := by decide +kernel
theorem q14_24 : qD 14 24 (.invokevirtual 64) 3 27 ∧ qI 14 64 70 436 := by decide +kernel
theorem q14_27 : qD 14 27 (.aload_n 0) 1 28 ∧ ((0 : Fin 4) : Nat) = 0 := by decide +kernel
theorem q14_28 : qD 14 28 (.aload_n 1) 1 29 ∧ ((1 : Fin 4) : Nat) = 1 := by decide +kernel
theorem q14_29 : qD 14 29 (.ldc 67) 2 31 ∧ cR[0]? = some ((mN 14).cls, 67, "wlgb", 0) := by decide +kernel
theorem q14_31 : qD 14 31 (.getstatic 69) 3 34 ∧ cS[1]? = some ("RULE_LEAST", (cS.getD 1 ("", [])).2) ∧ inN 441 (.fieldLinkNest (mN 14).cls 69 RX10 "RULE_LEAST" "[I" "OneWindow") := by decide +kernel
theorem q14_34 : qD 14 34 (.getstatic 72) 3 37 ∧ cS[2]? = some ("RULE_MOST", (cS.getD 2 ("", [])).2) ∧ inN 443 (.fieldLinkNest (mN 14).cls 72 RX10 "RULE_MOST" "[I" "OneWindow") := by decide +kernel
theorem q14_37 : qD 14 37 (.aload_n 0) 1 38 ∧ ((0 : Fin 4) : Nat) = 0 := by decide +kernel
theorem q14_38 : qG 14 38 9 41 3 0 172 2 := by decide +kernel
theorem q14_41 : qD 14 41 (.iconst 0) 1 42 ∧ Int32.ofInt (0) = (0 : Int32) := by decide +kernel
theorem q14_42 : qD 14 42 (.invokevirtual 75) 3 45 ∧ qI 14 75 15 445 := by decide +kernel
theorem q14_45 : qJ 14 45 (.goto 147) 48 (147) 192 := by decide +kernel
theorem q14_48 : qD 14 48 (.iload_n 2) 1 49 ∧ ((2 : Fin 4) : Nat) = 2 := by decide +kernel
theorem q14_49 : qD 14 49 (.bipush 99) 2 51 ∧ (Int8.ofInt (99)).toInt32 = (99 : Int32) := by decide +kernel
theorem q14_51 : qJ 14 51 (.if_icmp .ne 67) 54 (67) 118 := by decide +kernel
theorem q14_54 : qD 14 54 (.aload_n 0) 1 55 ∧ ((0 : Fin 4) : Nat) = 0 := by decide +kernel
theorem q14_55 : qG 14 55 21 58 3 3 176 0 := by decide +kernel
theorem q14_58 : qD 14 58 (.bipush 7) 2 60 ∧ (Int8.ofInt (7)).toInt32 = (7 : Int32) := by decide +kernel
theorem q14_60 : qJ 14 60 (.if_icmp .ge 58) 63 (58) 118 := by decide +kernel
theorem q14_63 : qD 14 63 (.aload_n 0) 1 64 ∧ ((0 : Fin 4) : Nat) = 0 := by decide +kernel
theorem q14_64 : qG 14 64 21 67 3 3 176 0 := by decide +kernel
theorem q14_67 : qD 14 67 (.iconst 5) 1 68 ∧ Int32.ofInt (5) = (5 : Int32) := by decide +kernel
theorem q14_68 : qD 14 68 (.imul) 1 69 := by decide +kernel
theorem q14_69 : qD 14 69 (.istore_n 3) 1 70 ∧ ((3 : Fin 4) : Nat) = 3 ∧ 3 < mL 14 := by decide +kernel
theorem q14_70 : qD 14 70 (.getstatic 79) 3 73 ∧ cS[3]? = some ("CELL_USUAL", (cS.getD 3 ("", [])).2) ∧ inN 557 (.fieldLinkNest (mN 14).cls 79 RX10 "CELL_USUAL" "[I" "OneWindow") := by decide +kernel
theorem q14_73 : qD 14 73 (.iconst 0) 1 74 ∧ Int32.ofInt (0) = (0 : Int32) := by decide +kernel
theorem q14_74 : qD 14 74 (.aload_n 0) 1 75 ∧ ((0 : Fin 4) : Nat) = 0 := by decide +kernel
theorem q14_75 : qG 14 75 15 78 3 1 174 2 := by decide +kernel
theorem q14_78 : qD 14 78 (.iload_n 3) 1 79 ∧ ((3 : Fin 4) : Nat) = 3 := by decide +kernel
theorem q14_79 : qD 14 79 (.iconst 5) 1 80 ∧ Int32.ofInt (5) = (5 : Int32) := by decide +kernel
theorem q14_80 : qD 14 80 (.invokestatic 35) 3 83 ∧ inG 421 (.methodLink (mN 14).cls 35 arraycopyName) := by decide +kernel
theorem q14_83 : qD 14 83 (.aload_n 0) 1 84 ∧ ((0 : Fin 4) : Nat) = 0 := by decide +kernel
theorem q14_84 : qD 14 84 (.dup) 1 85 := by decide +kernel
theorem q14_85 : qG 14 85 21 88 3 3 176 0 := by decide +kernel
theorem q14_88 : qD 14 88 (.iconst 1) 1 89 ∧ Int32.ofInt (1) = (1 : Int32) := by decide +kernel
theorem q14_89 : qD 14 89 (.iadd) 1 90 := by decide +kernel
theorem q14_90 : qP 14 90 21 93 3 3 176 0 := by decide +kernel
theorem q14_93 : qD 14 93 (.aload_n 1) 1 94 ∧ ((1 : Fin 4) : Nat) = 1 := by decide +kernel
theorem q14_94 : qD 14 94 (.invokevirtual 64) 3 97 ∧ qI 14 64 70 436 := by decide +kernel
theorem q14_97 : qD 14 97 (.aload_n 0) 1 98 ∧ ((0 : Fin 4) : Nat) = 0 := by decide +kernel
theorem q14_98 : qD 14 98 (.aload_n 1) 1 99 ∧ ((1 : Fin 4) : Nat) = 1 := by decide +kernel
theorem q14_99 : qD 14 99 (.ldc 82) 2 101 ∧ cR[1]? = some ((mN 14).cls, 82, "tmhxb", 1) := by decide +kernel
theorem q14_101 : qD 14 101 (.getstatic 84) 3 104 ∧ cS[4]? = some ("CELL_LEAST", (cS.getD 4 ("", [])).2) ∧ inN 560 (.fieldLinkNest (mN 14).cls 84 RX10 "CELL_LEAST" "[I" "OneWindow") := by decide +kernel
theorem q14_104 : qD 14 104 (.getstatic 87) 3 107 ∧ cS[5]? = some ("CELL_MOST", (cS.getD 5 ("", [])).2) ∧ inN 562 (.fieldLinkNest (mN 14).cls 87 RX10 "CELL_MOST" "[I" "OneWindow") := by decide +kernel
theorem q14_107 : qD 14 107 (.aload_n 0) 1 108 ∧ ((0 : Fin 4) : Nat) = 0 := by decide +kernel
theorem q14_108 : qG 14 108 15 111 3 1 174 2 := by decide +kernel
theorem q14_111 : qD 14 111 (.iload_n 3) 1 112 ∧ ((3 : Fin 4) : Nat) = 3 := by decide +kernel
theorem q14_112 : qD 14 112 (.invokevirtual 75) 3 115 ∧ qI 14 75 15 445 := by decide +kernel
theorem q14_115 : qJ 14 115 (.goto 77) 118 (77) 192 := by decide +kernel
theorem q14_118 : qD 14 118 (.iload_n 2) 1 119 ∧ ((2 : Fin 4) : Nat) = 2 := by decide +kernel
theorem q14_119 : qD 14 119 (.bipush 118) 2 121 ∧ (Int8.ofInt (118)).toInt32 = (118 : Int32) := by decide +kernel
theorem q14_121 : qJ 14 121 (.if_icmp .ne 67) 124 (67) 188 := by decide +kernel
theorem q14_124 : qD 14 124 (.aload_n 0) 1 125 ∧ ((0 : Fin 4) : Nat) = 0 := by decide +kernel
theorem q14_125 : qG 14 125 25 128 3 4 180 0 := by decide +kernel
theorem q14_128 : qD 14 128 (.bipush 6) 2 130 ∧ (Int8.ofInt (6)).toInt32 = (6 : Int32) := by decide +kernel
theorem q14_130 : qJ 14 130 (.if_icmp .ge 58) 133 (58) 188 := by decide +kernel
theorem q14_133 : qD 14 133 (.aload_n 0) 1 134 ∧ ((0 : Fin 4) : Nat) = 0 := by decide +kernel
theorem q14_134 : qG 14 134 25 137 3 4 180 0 := by decide +kernel
theorem q14_137 : qD 14 137 (.iconst 2) 1 138 ∧ Int32.ofInt (2) = (2 : Int32) := by decide +kernel
theorem q14_138 : qD 14 138 (.imul) 1 139 := by decide +kernel
theorem q14_139 : qD 14 139 (.istore_n 3) 1 140 ∧ ((3 : Fin 4) : Nat) = 3 ∧ 3 < mL 14 := by decide +kernel
theorem q14_140 : qD 14 140 (.getstatic 90) 3 143 ∧ cS[6]? = some ("EVENT_USUAL", (cS.getD 6 ("", [])).2) ∧ inN 564 (.fieldLinkNest (mN 14).cls 90 RX10 "EVENT_USUAL" "[I" "OneWindow") := by decide +kernel
theorem q14_143 : qD 14 143 (.iconst 0) 1 144 ∧ Int32.ofInt (0) = (0 : Int32) := by decide +kernel
theorem q14_144 : qD 14 144 (.aload_n 0) 1 145 ∧ ((0 : Fin 4) : Nat) = 0 := by decide +kernel
theorem q14_145 : qG 14 145 18 148 3 2 175 2 := by decide +kernel
theorem q14_148 : qD 14 148 (.iload_n 3) 1 149 ∧ ((3 : Fin 4) : Nat) = 3 := by decide +kernel
theorem q14_149 : qD 14 149 (.iconst 2) 1 150 ∧ Int32.ofInt (2) = (2 : Int32) := by decide +kernel
theorem q14_150 : qD 14 150 (.invokestatic 35) 3 153 ∧ inG 421 (.methodLink (mN 14).cls 35 arraycopyName) := by decide +kernel
theorem q14_153 : qD 14 153 (.aload_n 0) 1 154 ∧ ((0 : Fin 4) : Nat) = 0 := by decide +kernel
theorem q14_154 : qD 14 154 (.dup) 1 155 := by decide +kernel
theorem q14_155 : qG 14 155 25 158 3 4 180 0 := by decide +kernel
theorem q14_158 : qD 14 158 (.iconst 1) 1 159 ∧ Int32.ofInt (1) = (1 : Int32) := by decide +kernel
theorem q14_159 : qD 14 159 (.iadd) 1 160 := by decide +kernel
theorem q14_160 : qP 14 160 25 163 3 4 180 0 := by decide +kernel
theorem q14_163 : qD 14 163 (.aload_n 1) 1 164 ∧ ((1 : Fin 4) : Nat) = 1 := by decide +kernel
theorem q14_164 : qD 14 164 (.invokevirtual 64) 3 167 ∧ qI 14 64 70 436 := by decide +kernel
theorem q14_167 : qD 14 167 (.aload_n 0) 1 168 ∧ ((0 : Fin 4) : Nat) = 0 := by decide +kernel
theorem q14_168 : qD 14 168 (.aload_n 1) 1 169 ∧ ((1 : Fin 4) : Nat) = 1 := by decide +kernel
theorem q14_169 : qD 14 169 (.ldc 93) 2 171 ∧ cR[2]? = some ((mN 14).cls, 93, "np", 2) := by decide +kernel
theorem q14_171 : qD 14 171 (.getstatic 95) 3 174 ∧ cS[7]? = some ("EVENT_LEAST", (cS.getD 7 ("", [])).2) ∧ inN 567 (.fieldLinkNest (mN 14).cls 95 RX10 "EVENT_LEAST" "[I" "OneWindow") := by decide +kernel
theorem q14_174 : qD 14 174 (.getstatic 98) 3 177 ∧ cS[8]? = some ("EVENT_MOST", (cS.getD 8 ("", [])).2) ∧ inN 569 (.fieldLinkNest (mN 14).cls 98 RX10 "EVENT_MOST" "[I" "OneWindow") := by decide +kernel
theorem q14_177 : qD 14 177 (.aload_n 0) 1 178 ∧ ((0 : Fin 4) : Nat) = 0 := by decide +kernel
theorem q14_178 : qG 14 178 18 181 3 2 175 2 := by decide +kernel
theorem q14_181 : qD 14 181 (.iload_n 3) 1 182 ∧ ((3 : Fin 4) : Nat) = 3 := by decide +kernel
theorem q14_182 : qD 14 182 (.invokevirtual 75) 3 185 ∧ qI 14 75 15 445 := by decide +kernel
theorem q14_185 : qJ 14 185 (.goto 7) 188 (7) 192 := by decide +kernel
theorem q14_188 : qD 14 188 (.aload_n 1) 1 189 ∧ ((1 : Fin 4) : Nat) = 1 := by decide +kernel
theorem q14_189 : qD 14 189 (.invokevirtual 58) 3 192 ∧ qI 14 58 74 541 := by decide +kernel
theorem q14_192 : qD 14 192 (.return_) 1 193 ∧ mR 14 = none := by decide +kernel
theorem q15_0 : qD 15 0 (.iconst 0) 1 1 ∧ Int32.ofInt (0) = (0 : Int32) := by decide +kernel
theorem q15_1 : qD 15 1 (.istore 7) 2 3 ∧ 7 < mL 15 := by decide +kernel
theorem q15_3 : qD 15 3 (.iconst 0) 1 4 ∧ Int32.ofInt (0) = (0 : Int32) := by decide +kernel
theorem q15_4 : qD 15 4 (.istore 8) 2 6 ∧ 8 < mL 15 := by decide +kernel
theorem q15_6 : qD 15 6 (.iload 8) 2 8 := by decide +kernel
theorem q15_8 : qD 15 8 (.aload_n 2) 1 9 ∧ ((2 : Fin 4) : Nat) = 2 := by decide +kernel
theorem q15_9 : qD 15 9 (.invokevirtual 101) 3 12 ∧ inG 449 (.methodLink (mN 15).cls 101 (mN 301)) ∧ mL 301 ≤ 41 ∧ (mN 301).cls = "java/lang/String" := by decide +kernel
theorem q15_12 : qJ 15 12 (.if_icmp .gt 74) 15 (74) 86 := by decide +kernel
theorem q15_15 : qD 15 15 (.aload_n 1) 1 16 ∧ ((1 : Fin 4) : Nat) = 1 := by decide +kernel
theorem q15_16 : qD 15 16 (.aload_n 2) 1 17 ∧ ((2 : Fin 4) : Nat) = 2 := by decide +kernel
theorem q15_17 : qD 15 17 (.invokevirtual 106) 3 20 ∧ qI 15 106 76 459 := by decide +kernel
theorem q15_20 : qD 15 20 (.istore 9) 2 22 ∧ 9 < mL 15 := by decide +kernel
theorem q15_22 : qD 15 22 (.iload 9) 2 24 := by decide +kernel
theorem q15_24 : qD 15 24 (.iconst (-1)) 1 25 ∧ Int32.ofInt (-1) = (-1 : Int32) := by decide +kernel
theorem q15_25 : qJ 15 25 (.if_icmp .ne 4) 28 (4) 29 := by decide +kernel
theorem q15_28 : qD 15 28 (.return_) 1 29 ∧ mR 15 = none := by decide +kernel
theorem q15_29 : qD 15 29 (.iload 7) 2 31 := by decide +kernel
theorem q15_31 : qD 15 31 (.iload 9) 2 33 := by decide +kernel
theorem q15_33 : qD 15 33 (.ishr) 1 34 := by decide +kernel
theorem q15_34 : qD 15 34 (.iconst 1) 1 35 ∧ Int32.ofInt (1) = (1 : Int32) := by decide +kernel
theorem q15_35 : qD 15 35 (.iand) 1 36 := by decide +kernel
theorem q15_36 : qD 15 36 (.iconst 1) 1 37 ∧ Int32.ofInt (1) = (1 : Int32) := by decide +kernel
theorem q15_37 : qJ 15 37 (.if_icmp .ne 8) 40 (8) 45 := by decide +kernel
theorem q15_40 : qD 15 40 (.aload_n 1) 1 41 ∧ ((1 : Fin 4) : Nat) = 1 := by decide +kernel
theorem q15_41 : qD 15 41 (.invokevirtual 58) 3 44 ∧ qI 15 58 74 541 := by decide +kernel
theorem q15_44 : qD 15 44 (.return_) 1 45 ∧ mR 15 = none := by decide +kernel
theorem q15_45 : qD 15 45 (.iload 7) 2 47 := by decide +kernel
theorem q15_47 : qD 15 47 (.iconst 1) 1 48 ∧ Int32.ofInt (1) = (1 : Int32) := by decide +kernel
theorem q15_48 : qD 15 48 (.iload 9) 2 50 := by decide +kernel
theorem q15_50 : qD 15 50 (.ishl) 1 51 := by decide +kernel
theorem q15_51 : qD 15 51 (.ior) 1 52 := by decide +kernel
theorem q15_52 : qD 15 52 (.istore 7) 2 54 ∧ 7 < mL 15 := by decide +kernel
theorem q15_54 : qD 15 54 (.aload_n 1) 1 55 ∧ ((1 : Fin 4) : Nat) = 1 := by decide +kernel
theorem q15_55 : qD 15 55 (.invokevirtual 64) 3 58 ∧ qI 15 64 70 436 := by decide +kernel
theorem q15_58 : qD 15 58 (.aload 5) 2 60 := by decide +kernel
theorem q15_60 : qD 15 60 (.iload 6) 2 62 := by decide +kernel
theorem q15_62 : qD 15 62 (.iload 9) 2 64 := by decide +kernel
theorem q15_64 : qD 15 64 (.iadd) 1 65 := by decide +kernel
theorem q15_65 : qD 15 65 (.aload_n 1) 1 66 ∧ ((1 : Fin 4) : Nat) = 1 := by decide +kernel
theorem q15_66 : qD 15 66 (.iconst 2) 1 67 ∧ Int32.ofInt (2) = (2 : Int32) := by decide +kernel
theorem q15_67 : qD 15 67 (.aload_n 3) 1 68 ∧ ((3 : Fin 4) : Nat) = 3 := by decide +kernel
theorem q15_68 : qD 15 68 (.iload 9) 2 70 := by decide +kernel
theorem q15_70 : qD 15 70 (.iaload) 1 71 := by decide +kernel
theorem q15_71 : qD 15 71 (.aload 4) 2 73 := by decide +kernel
theorem q15_73 : qD 15 73 (.iload 9) 2 75 := by decide +kernel
theorem q15_75 : qD 15 75 (.iaload) 1 76 := by decide +kernel
theorem q15_76 : qD 15 76 (.invokevirtual 110) 3 79 ∧ qI 15 110 78 549 := by decide +kernel
theorem q15_79 : qD 15 79 (.iastore) 1 80 := by decide +kernel
theorem q15_80 : qD 15 80 (.iinc 8 1) 3 83 ∧ 8 < mL 15 ∧ Int32.ofInt (1) = (1 : Int32) := by decide +kernel
theorem q15_83 : qJ 15 83 (.goto (-77)) 86 (-77) 6 := by decide +kernel
theorem q15_86 : qD 15 86 (.return_) 1 87 ∧ mR 15 = none := by decide +kernel
theorem q16_0 : qD 16 0 (.aload_n 0) 1 1 ∧ ((0 : Fin 4) : Nat) = 0 := by decide +kernel
theorem q16_1 : qG 16 1 9 4 3 0 172 2 := by decide +kernel
theorem q16_4 : qD 16 4 (.iconst 0) 1 5 ∧ Int32.ofInt (0) = (0 : Int32) := by decide +kernel
theorem q16_5 : qD 16 5 (.iaload) 1 6 := by decide +kernel
theorem q16_6 : qD 16 6 (.ireturn) 1 7 ∧ mR 16 = some .int := by decide +kernel
theorem q17_0 : qD 17 0 (.aload_n 0) 1 1 ∧ ((0 : Fin 4) : Nat) = 0 := by decide +kernel
theorem q17_1 : qG 17 1 9 4 3 0 172 2 := by decide +kernel
theorem q17_4 : qD 17 4 (.iconst 1) 1 5 ∧ Int32.ofInt (1) = (1 : Int32) := by decide +kernel
theorem q17_5 : qD 17 5 (.iaload) 1 6 := by decide +kernel
theorem q17_6 : qD 17 6 (.ireturn) 1 7 ∧ mR 17 = some .int := by decide +kernel
theorem q18_0 : qD 18 0 (.aload_n 0) 1 1 ∧ ((0 : Fin 4) : Nat) = 0 := by decide +kernel
theorem q18_1 : qG 18 1 9 4 3 0 172 2 := by decide +kernel
theorem q18_4 : qD 18 4 (.iconst 2) 1 5 ∧ Int32.ofInt (2) = (2 : Int32) := by decide +kernel
theorem q18_5 : qD 18 5 (.iaload) 1 6 := by decide +kernel
theorem q18_6 : qD 18 6 (.ireturn) 1 7 ∧ mR 18 = some .int := by decide +kernel
theorem q19_0 : qD 19 0 (.aload_n 0) 1 1 ∧ ((0 : Fin 4) : Nat) = 0 := by decide +kernel
theorem q19_1 : qG 19 1 9 4 3 0 172 2 := by decide +kernel
theorem q19_4 : qD 19 4 (.iconst 3) 1 5 ∧ Int32.ofInt (3) = (3 : Int32) := by decide +kernel
theorem q19_5 : qD 19 5 (.iaload) 1 6 := by decide +kernel
theorem q19_6 : qD 19 6 (.ireturn) 1 7 ∧ mR 19 = some .int := by decide +kernel
theorem q20_0 : qD 20 0 (.aload_n 0) 1 1 ∧ ((0 : Fin 4) : Nat) = 0 := by decide +kernel
theorem q20_1 : qG 20 1 15 4 3 1 174 2 := by decide +kernel
theorem q20_4 : qD 20 4 (.iload_n 1) 1 5 ∧ ((1 : Fin 4) : Nat) = 1 := by decide +kernel
theorem q20_5 : qD 20 5 (.iconst 5) 1 6 ∧ Int32.ofInt (5) = (5 : Int32) := by decide +kernel
theorem q20_6 : qD 20 6 (.imul) 1 7 := by decide +kernel
theorem q20_7 : qD 20 7 (.iaload) 1 8 := by decide +kernel
theorem q20_8 : qD 20 8 (.ireturn) 1 9 ∧ mR 20 = some .int := by decide +kernel
theorem q21_0 : qD 21 0 (.aload_n 0) 1 1 ∧ ((0 : Fin 4) : Nat) = 0 := by decide +kernel
theorem q21_1 : qG 21 1 15 4 3 1 174 2 := by decide +kernel
theorem q21_4 : qD 21 4 (.iload_n 1) 1 5 ∧ ((1 : Fin 4) : Nat) = 1 := by decide +kernel
theorem q21_5 : qD 21 5 (.iconst 5) 1 6 ∧ Int32.ofInt (5) = (5 : Int32) := by decide +kernel
theorem q21_6 : qD 21 6 (.imul) 1 7 := by decide +kernel
theorem q21_7 : qD 21 7 (.iconst 1) 1 8 ∧ Int32.ofInt (1) = (1 : Int32) := by decide +kernel
theorem q21_8 : qD 21 8 (.iadd) 1 9 := by decide +kernel
theorem q21_9 : qD 21 9 (.iaload) 1 10 := by decide +kernel
theorem q21_10 : qD 21 10 (.ireturn) 1 11 ∧ mR 21 = some .int := by decide +kernel
theorem q22_0 : qD 22 0 (.aload_n 0) 1 1 ∧ ((0 : Fin 4) : Nat) = 0 := by decide +kernel
theorem q22_1 : qG 22 1 15 4 3 1 174 2 := by decide +kernel
theorem q22_4 : qD 22 4 (.iload_n 1) 1 5 ∧ ((1 : Fin 4) : Nat) = 1 := by decide +kernel
theorem q22_5 : qD 22 5 (.iconst 5) 1 6 ∧ Int32.ofInt (5) = (5 : Int32) := by decide +kernel
theorem q22_6 : qD 22 6 (.imul) 1 7 := by decide +kernel
theorem q22_7 : qD 22 7 (.iconst 2) 1 8 ∧ Int32.ofInt (2) = (2 : Int32) := by decide +kernel
theorem q22_8 : qD 22 8 (.iadd) 1 9 := by decide +kernel
theorem q22_9 : qD 22 9 (.iaload) 1 10 := by decide +kernel
theorem q22_10 : qD 22 10 (.ireturn) 1 11 ∧ mR 22 = some .int := by decide +kernel
theorem q23_0 : qD 23 0 (.aload_n 0) 1 1 ∧ ((0 : Fin 4) : Nat) = 0 := by decide +kernel
theorem q23_1 : qG 23 1 15 4 3 1 174 2 := by decide +kernel
theorem q23_4 : qD 23 4 (.iload_n 1) 1 5 ∧ ((1 : Fin 4) : Nat) = 1 := by decide +kernel
theorem q23_5 : qD 23 5 (.iconst 5) 1 6 ∧ Int32.ofInt (5) = (5 : Int32) := by decide +kernel
theorem q23_6 : qD 23 6 (.imul) 1 7 := by decide +kernel
theorem q23_7 : qD 23 7 (.iconst 3) 1 8 ∧ Int32.ofInt (3) = (3 : Int32) := by decide +kernel
theorem q23_8 : qD 23 8 (.iadd) 1 9 := by decide +kernel
theorem q23_9 : qD 23 9 (.iaload) 1 10 := by decide +kernel
theorem q23_10 : qD 23 10 (.istore_n 2) 1 11 ∧ ((2 : Fin 4) : Nat) = 2 ∧ 2 < mL 23 := by decide +kernel
theorem q23_11 : qD 23 11 (.iload_n 2) 1 12 ∧ ((2 : Fin 4) : Nat) = 2 := by decide +kernel
theorem q23_12 : qD 23 12 (.aload_n 0) 1 13 ∧ ((0 : Fin 4) : Nat) = 0 := by decide +kernel
theorem q23_13 : qG 23 13 25 16 3 4 180 0 := by decide +kernel
theorem q23_16 : qJ 23 16 (.if_icmp .ge 7) 19 (7) 23 := by decide +kernel
theorem q23_19 : qD 23 19 (.iload_n 2) 1 20 ∧ ((2 : Fin 4) : Nat) = 2 := by decide +kernel
theorem q23_20 : qJ 23 20 (.goto 4) 23 (4) 24 := by decide +kernel
theorem q23_23 : qD 23 23 (.iconst (-1)) 1 24 ∧ Int32.ofInt (-1) = (-1 : Int32) := by decide +kernel
theorem q23_24 : qD 23 24 (.ireturn) 1 25 ∧ mR 23 = some .int := by decide +kernel
theorem q24_0 : qD 24 0 (.aload_n 0) 1 1 ∧ ((0 : Fin 4) : Nat) = 0 := by decide +kernel
theorem q24_1 : qG 24 1 15 4 3 1 174 2 := by decide +kernel
theorem q24_4 : qD 24 4 (.iload_n 1) 1 5 ∧ ((1 : Fin 4) : Nat) = 1 := by decide +kernel
theorem q24_5 : qD 24 5 (.iconst 5) 1 6 ∧ Int32.ofInt (5) = (5 : Int32) := by decide +kernel
theorem q24_6 : qD 24 6 (.imul) 1 7 := by decide +kernel
theorem q24_7 : qD 24 7 (.iconst 4) 1 8 ∧ Int32.ofInt (4) = (4 : Int32) := by decide +kernel
theorem q24_8 : qD 24 8 (.iadd) 1 9 := by decide +kernel
theorem q24_9 : qD 24 9 (.iaload) 1 10 := by decide +kernel
theorem q24_10 : qD 24 10 (.ireturn) 1 11 ∧ mR 24 = some .int := by decide +kernel
theorem q25_0 : qD 25 0 (.aload_n 0) 1 1 ∧ ((0 : Fin 4) : Nat) = 0 := by decide +kernel
theorem q25_1 : qG 25 1 18 4 3 2 175 2 := by decide +kernel
theorem q25_4 : qD 25 4 (.iload_n 1) 1 5 ∧ ((1 : Fin 4) : Nat) = 1 := by decide +kernel
theorem q25_5 : qD 25 5 (.iconst 2) 1 6 ∧ Int32.ofInt (2) = (2 : Int32) := by decide +kernel
theorem q25_6 : qD 25 6 (.imul) 1 7 := by decide +kernel
theorem q25_7 : qD 25 7 (.iaload) 1 8 := by decide +kernel
theorem q25_8 : qD 25 8 (.ireturn) 1 9 ∧ mR 25 = some .int := by decide +kernel
theorem q26_0 : qD 26 0 (.aload_n 0) 1 1 ∧ ((0 : Fin 4) : Nat) = 0 := by decide +kernel
theorem q26_1 : qG 26 1 18 4 3 2 175 2 := by decide +kernel
theorem q26_4 : qD 26 4 (.iload_n 1) 1 5 ∧ ((1 : Fin 4) : Nat) = 1 := by decide +kernel
theorem q26_5 : qD 26 5 (.iconst 2) 1 6 ∧ Int32.ofInt (2) = (2 : Int32) := by decide +kernel
theorem q26_6 : qD 26 6 (.imul) 1 7 := by decide +kernel
theorem q26_7 : qD 26 7 (.iconst 1) 1 8 ∧ Int32.ofInt (1) = (1 : Int32) := by decide +kernel
theorem q26_8 : qD 26 8 (.iadd) 1 9 := by decide +kernel
theorem q26_9 : qD 26 9 (.iaload) 1 10 := by decide +kernel
theorem q26_10 : qD 26 10 (.ireturn) 1 11 ∧ mR 26 = some .int := by decide +kernel
theorem q27_0 : qD 27 0 (.aload_n 0) 1 1 ∧ ((0 : Fin 4) : Nat) = 0 := by decide +kernel
theorem q27_1 : qD 27 1 (.invokespecial 3) 3 4 ∧ inG 276 (.methodLink (mN 27).cls 3 Lib.objectInit) := by decide +kernel
theorem q27_4 : qD 27 4 (.aload_n 0) 1 5 ∧ ((0 : Fin 4) : Nat) = 0 := by decide +kernel
theorem q27_5 : qD 27 5 (.bipush 7) 2 7 ∧ (Int8.ofInt (7)).toInt32 = (7 : Int32) := by decide +kernel
theorem q27_7 : qD 27 7 (.newarray .int) 2 9 ∧ (100 = 100 ∨ 100 = 101 ∨ 100 = 102 ∨ 100 = 103) ∧ newarray.typeOf .int = kty 100 ∧ inG 165 (.arrayClass (kty 100)) := by decide +kernel
theorem q27_9 : qP 27 9 9 12 4 0 277 2 := by decide +kernel
theorem q27_12 : qD 27 12 (.aload_n 0) 1 13 ∧ ((0 : Fin 4) : Nat) = 0 := by decide +kernel
theorem q27_13 : qD 27 13 (.bipush 7) 2 15 ∧ (Int8.ofInt (7)).toInt32 = (7 : Int32) := by decide +kernel
theorem q27_15 : qD 27 15 (.newarray .int) 2 17 ∧ (100 = 100 ∨ 100 = 101 ∨ 100 = 102 ∨ 100 = 103) ∧ newarray.typeOf .int = kty 100 ∧ inG 165 (.arrayClass (kty 100)) := by decide +kernel
theorem q27_17 : qP 27 17 15 20 4 1 279 2 := by decide +kernel
theorem q27_20 : qD 27 20 (.aload_n 0) 1 21 ∧ ((0 : Fin 4) : Nat) = 0 := by decide +kernel
theorem q27_21 : qD 27 21 (.bipush 6) 2 23 ∧ (Int8.ofInt (6)).toInt32 = (6 : Int32) := by decide +kernel
theorem q27_23 : qD 27 23 (.newarray .int) 2 25 ∧ (100 = 100 ∨ 100 = 101 ∨ 100 = 102 ∨ 100 = 103) ∧ newarray.typeOf .int = kty 100 ∧ inG 165 (.arrayClass (kty 100)) := by decide +kernel
theorem q27_25 : qP 27 25 18 28 4 2 281 2 := by decide +kernel
theorem q27_28 : qD 27 28 (.return_) 1 29 ∧ mR 27 = none := by decide +kernel
theorem q28_0 : qD 28 0 (.aload_n 0) 1 1 ∧ ((0 : Fin 4) : Nat) = 0 := by decide +kernel
theorem q28_1 : qG 28 1 18 4 4 2 281 2 := by decide +kernel
theorem q28_4 : qD 28 4 (.iconst 1) 1 5 ∧ Int32.ofInt (1) = (1 : Int32) := by decide +kernel
theorem q28_5 : qD 28 5 (.aload_n 1) 1 6 ∧ ((1 : Fin 4) : Nat) = 1 := by decide +kernel
theorem q28_6 : qD 28 6 (.iload 4) 2 8 := by decide +kernel
theorem q28_8 : qD 28 8 (.invokevirtual 21) 3 11 ∧ qI 28 21 25 836 := by decide +kernel
theorem q28_11 : qD 28 11 (.iastore) 1 12 := by decide +kernel
theorem q28_12 : qD 28 12 (.aload_n 0) 1 13 ∧ ((0 : Fin 4) : Nat) = 0 := by decide +kernel
theorem q28_13 : qG 28 13 18 16 4 2 281 2 := by decide +kernel
theorem q28_16 : qD 28 16 (.iconst 3) 1 17 ∧ Int32.ofInt (3) = (3 : Int32) := by decide +kernel
theorem q28_17 : qD 28 17 (.iload 4) 2 19 := by decide +kernel
theorem q28_19 : qD 28 19 (.iastore) 1 20 := by decide +kernel
theorem q28_20 : qD 28 20 (.aload_n 0) 1 21 ∧ ((0 : Fin 4) : Nat) = 0 := by decide +kernel
theorem q28_21 : qG 28 21 18 24 4 2 281 2 := by decide +kernel
theorem q28_24 : qD 28 24 (.iconst 4) 1 25 ∧ Int32.ofInt (4) = (4 : Int32) := by decide +kernel
theorem q28_25 : qD 28 25 (.aload_n 2) 1 26 ∧ ((2 : Fin 4) : Nat) = 2 := by decide +kernel
theorem q28_26 : qG 28 26 27 29 7 0 238 2 := by decide +kernel
theorem q28_29 : qD 28 29 (.bipush 32) 2 31 ∧ (Int8.ofInt (32)).toInt32 = (32 : Int32) := by decide +kernel
theorem q28_31 : qD 28 31 (.iaload) 1 32 := by decide +kernel
theorem q28_32 : qD 28 32 (.iastore) 1 33 := by decide +kernel
theorem q28_33 : qD 28 33 (.aload_n 0) 1 34 ∧ ((0 : Fin 4) : Nat) = 0 := by decide +kernel
theorem q28_34 : qG 28 34 18 37 4 2 281 2 := by decide +kernel
theorem q28_37 : qD 28 37 (.iconst 5) 1 38 ∧ Int32.ofInt (5) = (5 : Int32) := by decide +kernel
theorem q28_38 : qD 28 38 (.aload_n 2) 1 39 ∧ ((2 : Fin 4) : Nat) = 2 := by decide +kernel
theorem q28_39 : qG 28 39 27 42 7 0 238 2 := by decide +kernel
theorem q28_42 : qD 28 42 (.bipush 31) 2 44 ∧ (Int8.ofInt (31)).toInt32 = (31 : Int32) := by decide +kernel
theorem q28_44 : qD 28 44 (.iaload) 1 45 := by decide +kernel
theorem q28_45 : qD 28 45 (.iastore) 1 46 := by decide +kernel
theorem q28_46 : qD 28 46 (.aload_n 0) 1 47 ∧ ((0 : Fin 4) : Nat) = 0 := by decide +kernel
theorem q28_47 : qG 28 47 9 50 4 0 277 2 := by decide +kernel
theorem q28_50 : qD 28 50 (.iload 5) 2 52 := by decide +kernel
theorem q28_52 : qD 28 52 (.aload_n 1) 1 53 ∧ ((1 : Fin 4) : Nat) = 1 := by decide +kernel
theorem q28_53 : qD 28 53 (.invokevirtual 32) 3 56 ∧ qI 28 32 17 837 := by decide +kernel
theorem q28_56 : qD 28 56 (.iastore) 1 57 := by decide +kernel
theorem q28_57 : qD 28 57 (.iload 5) 2 59 := by decide +kernel
theorem q28_59 : qD 28 59 (.iconst 1) 1 60 ∧ Int32.ofInt (1) = (1 : Int32) := by decide +kernel
theorem q28_60 : qD 28 60 (.iadd) 1 61 := by decide +kernel
theorem q28_61 : qD 28 61 (.istore 6) 2 63 ∧ 6 < mL 28 := by decide +kernel
theorem q28_63 : qD 28 63 (.iload 6) 2 65 := by decide +kernel
theorem q28_65 : qD 28 65 (.aload_n 1) 1 66 ∧ ((1 : Fin 4) : Nat) = 1 := by decide +kernel
theorem q28_66 : qG 28 66 36 69 3 3 178 0 := by decide +kernel
theorem q28_69 : qJ 28 69 (.if_icmp .ge 55) 72 (55) 124 := by decide +kernel
theorem q28_72 : qD 28 72 (.aload_n 1) 1 73 ∧ ((1 : Fin 4) : Nat) = 1 := by decide +kernel
theorem q28_73 : qD 28 73 (.aload_n 2) 1 74 ∧ ((2 : Fin 4) : Nat) = 2 := by decide +kernel
theorem q28_74 : qG 28 74 27 77 7 0 238 2 := by decide +kernel
theorem q28_77 : qD 28 77 (.iconst 0) 1 78 ∧ Int32.ofInt (0) = (0 : Int32) := by decide +kernel
theorem q28_78 : qD 28 78 (.iload 6) 2 80 := by decide +kernel
theorem q28_80 : qD 28 80 (.iadd) 1 81 := by decide +kernel
theorem q28_81 : qD 28 81 (.iaload) 1 82 := by decide +kernel
theorem q28_82 : qD 28 82 (.invokevirtual 40) 3 85 ∧ qI 28 40 21 841 := by decide +kernel
theorem q28_85 : qD 28 85 (.istore 7) 2 87 ∧ 7 < mL 28 := by decide +kernel
theorem q28_87 : qD 28 87 (.aload_n 0) 1 88 ∧ ((0 : Fin 4) : Nat) = 0 := by decide +kernel
theorem q28_88 : qG 28 88 9 91 4 0 277 2 := by decide +kernel
theorem q28_91 : qD 28 91 (.iload 6) 2 93 := by decide +kernel
theorem q28_93 : qD 28 93 (.aload_n 0) 1 94 ∧ ((0 : Fin 4) : Nat) = 0 := by decide +kernel
theorem q28_94 : qD 28 94 (.aload_n 0) 1 95 ∧ ((0 : Fin 4) : Nat) = 0 := by decide +kernel
theorem q28_95 : qG 28 95 9 98 4 0 277 2 := by decide +kernel
theorem q28_98 : qD 28 98 (.iload 6) 2 100 := by decide +kernel
theorem q28_100 : qD 28 100 (.iconst 1) 1 101 ∧ Int32.ofInt (1) = (1 : Int32) := by decide +kernel
theorem q28_101 : qD 28 101 (.isub) 1 102 := by decide +kernel
theorem q28_102 : qD 28 102 (.iaload) 1 103 := by decide +kernel
theorem q28_103 : qD 28 103 (.aload_n 1) 1 104 ∧ ((1 : Fin 4) : Nat) = 1 := by decide +kernel
theorem q28_104 : qD 28 104 (.iload 6) 2 106 := by decide +kernel
theorem q28_106 : qD 28 106 (.iconst 1) 1 107 ∧ Int32.ofInt (1) = (1 : Int32) := by decide +kernel
theorem q28_107 : qD 28 107 (.isub) 1 108 := by decide +kernel
theorem q28_108 : qD 28 108 (.invokevirtual 43) 3 111 ∧ qI 28 43 20 845 := by decide +kernel
theorem q28_111 : qD 28 111 (.iload 7) 2 113 := by decide +kernel
theorem q28_113 : qD 28 113 (.aload_n 3) 1 114 ∧ ((3 : Fin 4) : Nat) = 3 := by decide +kernel
theorem q28_114 : qD 28 114 (.invokevirtual 46) 3 117 ∧ qI 28 46 29 846 := by decide +kernel
theorem q28_117 : qD 28 117 (.iastore) 1 118 := by decide +kernel
theorem q28_118 : qD 28 118 (.iinc 6 1) 3 121 ∧ 6 < mL 28 ∧ Int32.ofInt (1) = (1 : Int32) := by decide +kernel
theorem q28_121 : qJ 28 121 (.goto (-58)) 124 (-58) 63 := by decide +kernel
theorem q28_124 : qD 28 124 (.iload 5) 2 126 := by decide +kernel
theorem q28_126 : qD 28 126 (.iconst 1) 1 127 ∧ Int32.ofInt (1) = (1 : Int32) := by decide +kernel
theorem q28_127 : qD 28 127 (.isub) 1 128 := by decide +kernel
theorem q28_128 : qD 28 128 (.istore 6) 2 130 ∧ 6 < mL 28 := by decide +kernel
theorem q28_130 : qD 28 130 (.iload 6) 2 132 := by decide +kernel
theorem q28_132 : qJ 28 132 (.ifCond .lt 53) 135 (53) 185 := by decide +kernel
theorem q28_135 : qD 28 135 (.aload_n 1) 1 136 ∧ ((1 : Fin 4) : Nat) = 1 := by decide +kernel
theorem q28_136 : qD 28 136 (.aload_n 2) 1 137 ∧ ((2 : Fin 4) : Nat) = 2 := by decide +kernel
theorem q28_137 : qG 28 137 27 140 7 0 238 2 := by decide +kernel
theorem q28_140 : qD 28 140 (.iconst 0) 1 141 ∧ Int32.ofInt (0) = (0 : Int32) := by decide +kernel
theorem q28_141 : qD 28 141 (.iload 6) 2 143 := by decide +kernel
theorem q28_143 : qD 28 143 (.iadd) 1 144 := by decide +kernel
theorem q28_144 : qD 28 144 (.iaload) 1 145 := by decide +kernel
theorem q28_145 : qD 28 145 (.invokevirtual 40) 3 148 ∧ qI 28 40 21 841 := by decide +kernel
theorem q28_148 : qD 28 148 (.istore 7) 2 150 ∧ 7 < mL 28 := by decide +kernel
theorem q28_150 : qD 28 150 (.aload_n 0) 1 151 ∧ ((0 : Fin 4) : Nat) = 0 := by decide +kernel
theorem q28_151 : qG 28 151 9 154 4 0 277 2 := by decide +kernel
theorem q28_154 : qD 28 154 (.iload 6) 2 156 := by decide +kernel
theorem q28_156 : qD 28 156 (.aload_n 0) 1 157 ∧ ((0 : Fin 4) : Nat) = 0 := by decide +kernel
theorem q28_157 : qD 28 157 (.aload_n 0) 1 158 ∧ ((0 : Fin 4) : Nat) = 0 := by decide +kernel
theorem q28_158 : qG 28 158 9 161 4 0 277 2 := by decide +kernel
theorem q28_161 : qD 28 161 (.iload 6) 2 163 := by decide +kernel
theorem q28_163 : qD 28 163 (.iconst 1) 1 164 ∧ Int32.ofInt (1) = (1 : Int32) := by decide +kernel
theorem q28_164 : qD 28 164 (.iadd) 1 165 := by decide +kernel
theorem q28_165 : qD 28 165 (.iaload) 1 166 := by decide +kernel
theorem q28_166 : qD 28 166 (.aload_n 1) 1 167 ∧ ((1 : Fin 4) : Nat) = 1 := by decide +kernel
theorem q28_167 : qD 28 167 (.iload 6) 2 169 := by decide +kernel
theorem q28_169 : qD 28 169 (.invokevirtual 43) 3 172 ∧ qI 28 43 20 845 := by decide +kernel
theorem q28_172 : qD 28 172 (.iload 7) 2 174 := by decide +kernel
theorem q28_174 : qD 28 174 (.aload_n 3) 1 175 ∧ ((3 : Fin 4) : Nat) = 3 := by decide +kernel
theorem q28_175 : qD 28 175 (.invokevirtual 46) 3 178 ∧ qI 28 46 29 846 := by decide +kernel
theorem q28_178 : qD 28 178 (.iastore) 1 179 := by decide +kernel
theorem q28_179 : qD 28 179 (.iinc 6 (-1)) 3 182 ∧ 6 < mL 28 ∧ Int32.ofInt (-1) = (-1 : Int32) := by decide +kernel
theorem q28_182 : qJ 28 182 (.goto (-52)) 185 (-52) 130 := by decide +kernel
theorem q28_185 : qD 28 185 (.return_) 1 186 ∧ mR 28 = none := by decide +kernel
theorem q29_0 : qD 29 0 (.iload_n 1) 1 1 ∧ ((1 : Fin 4) : Nat) = 1 := by decide +kernel
theorem q29_1 : qJ 29 1 (.ifCond .gt 5) 4 (5) 6 := by decide +kernel
theorem q29_4 : qD 29 4 (.iconst 0) 1 5 ∧ Int32.ofInt (0) = (0 : Int32) := by decide +kernel
theorem q29_5 : qD 29 5 (.ireturn) 1 6 ∧ mR 29 = some .int := by decide +kernel
theorem q29_6 : qD 29 6 (.iload_n 2) 1 7 ∧ ((2 : Fin 4) : Nat) = 2 := by decide +kernel
theorem q29_7 : qD 29 7 (.istore 5) 2 9 ∧ 5 < mL 29 := by decide +kernel
theorem q29_9 : qD 29 9 (.aload 4) 2 11 := by decide +kernel
theorem q29_11 : qJ 29 11 (.ifnull 37) 14 (37) 48 := by decide +kernel
theorem q29_14 : qD 29 14 (.aload_n 0) 1 15 ∧ ((0 : Fin 4) : Nat) = 0 := by decide +kernel
theorem q29_15 : qG 29 15 18 18 4 2 281 2 := by decide +kernel
theorem q29_18 : qD 29 18 (.iconst 0) 1 19 ∧ Int32.ofInt (0) = (0 : Int32) := by decide +kernel
theorem q29_19 : qD 29 19 (.iload_n 2) 1 20 ∧ ((2 : Fin 4) : Nat) = 2 := by decide +kernel
theorem q29_20 : qD 29 20 (.iastore) 1 21 := by decide +kernel
theorem q29_21 : qD 29 21 (.aload_n 0) 1 22 ∧ ((0 : Fin 4) : Nat) = 0 := by decide +kernel
theorem q29_22 : qG 29 22 18 25 4 2 281 2 := by decide +kernel
theorem q29_25 : qD 29 25 (.iconst 2) 1 26 ∧ Int32.ofInt (2) = (2 : Int32) := by decide +kernel
theorem q29_26 : qD 29 26 (.iload_n 3) 1 27 ∧ ((3 : Fin 4) : Nat) = 3 := by decide +kernel
theorem q29_27 : qD 29 27 (.iastore) 1 28 := by decide +kernel
theorem q29_28 : qD 29 28 (.iconst 0) 1 29 ∧ Int32.ofInt (0) = (0 : Int32) := by decide +kernel
theorem q29_29 : qD 29 29 (.bipush 99) 2 31 ∧ (Int8.ofInt (99)).toInt32 = (99 : Int32) := by decide +kernel
theorem q29_31 : qD 29 31 (.aload 4) 2 33 := by decide +kernel
theorem q29_33 : qD 29 33 (.aload_n 0) 1 34 ∧ ((0 : Fin 4) : Nat) = 0 := by decide +kernel
theorem q29_34 : qG 29 34 18 37 4 2 281 2 := by decide +kernel
theorem q29_37 : qD 29 37 (.invokevirtual 50) 3 40 ∧ qI 29 50 45 850 := by decide +kernel
theorem q29_40 : qD 29 40 (.invokestatic 56) 3 43 ∧ inG 873 (.methodLink (mN 29).cls 56 Lib.Math.min.name) := by decide +kernel
theorem q29_43 : qD 29 43 (.invokestatic 62) 3 46 ∧ inG 874 (.methodLink (mN 29).cls 62 Lib.Math.max.name) := by decide +kernel
theorem q29_46 : qD 29 46 (.istore 5) 2 48 ∧ 5 < mL 29 := by decide +kernel
theorem q29_48 : qD 29 48 (.iconst 0) 1 49 ∧ Int32.ofInt (0) = (0 : Int32) := by decide +kernel
theorem q29_49 : qD 29 49 (.iload_n 1) 1 50 ∧ ((1 : Fin 4) : Nat) = 1 := by decide +kernel
theorem q29_50 : qD 29 50 (.iload 5) 2 52 := by decide +kernel
theorem q29_52 : qD 29 52 (.isub) 1 53 := by decide +kernel
theorem q29_53 : qD 29 53 (.invokestatic 62) 3 56 ∧ inG 874 (.methodLink (mN 29).cls 62 Lib.Math.max.name) := by decide +kernel
theorem q29_56 : qD 29 56 (.ireturn) 1 57 ∧ mR 29 = some .int := by decide +kernel
theorem q30_0 : qD 30 0 (.iconst 0) 1 1 ∧ Int32.ofInt (0) = (0 : Int32) := by decide +kernel
theorem q30_1 : qD 30 1 (.istore 4) 2 3 ∧ 4 < mL 30 := by decide +kernel
theorem q30_3 : qD 30 3 (.iconst 0) 1 4 ∧ Int32.ofInt (0) = (0 : Int32) := by decide +kernel
theorem q30_4 : qD 30 4 (.istore 5) 2 6 ∧ 5 < mL 30 := by decide +kernel
theorem q30_6 : qD 30 6 (.iload 5) 2 8 := by decide +kernel
theorem q30_8 : qD 30 8 (.aload_n 1) 1 9 ∧ ((1 : Fin 4) : Nat) = 1 := by decide +kernel
theorem q30_9 : qG 30 9 36 12 3 3 178 0 := by decide +kernel
theorem q30_12 : qJ 30 12 (.if_icmp .ge 41) 15 (41) 53 := by decide +kernel
theorem q30_15 : qD 30 15 (.iload 5) 2 17 := by decide +kernel
theorem q30_17 : qD 30 17 (.iload_n 3) 1 18 ∧ ((3 : Fin 4) : Nat) = 3 := by decide +kernel
theorem q30_18 : qJ 30 18 (.if_icmp .eq 29) 21 (29) 47 := by decide +kernel
theorem q30_21 : qD 30 21 (.aload_n 0) 1 22 ∧ ((0 : Fin 4) : Nat) = 0 := by decide +kernel
theorem q30_22 : qG 30 22 9 25 4 0 277 2 := by decide +kernel
theorem q30_25 : qD 30 25 (.iload 5) 2 27 := by decide +kernel
theorem q30_27 : qD 30 27 (.iaload) 1 28 := by decide +kernel
theorem q30_28 : qJ 30 28 (.ifCond .le 19) 31 (19) 47 := by decide +kernel
theorem q30_31 : qD 30 31 (.iload 4) 2 33 := by decide +kernel
theorem q30_33 : qD 30 33 (.iconst 1) 1 34 ∧ Int32.ofInt (1) = (1 : Int32) := by decide +kernel
theorem q30_34 : qD 30 34 (.aload_n 2) 1 35 ∧ ((2 : Fin 4) : Nat) = 2 := by decide +kernel
theorem q30_35 : qG 30 35 27 38 7 0 238 2 := by decide +kernel
theorem q30_38 : qD 30 38 (.iconst 0) 1 39 ∧ Int32.ofInt (0) = (0 : Int32) := by decide +kernel
theorem q30_39 : qD 30 39 (.iload 5) 2 41 := by decide +kernel
theorem q30_41 : qD 30 41 (.iadd) 1 42 := by decide +kernel
theorem q30_42 : qD 30 42 (.iaload) 1 43 := by decide +kernel
theorem q30_43 : qD 30 43 (.ishl) 1 44 := by decide +kernel
theorem q30_44 : qD 30 44 (.ior) 1 45 := by decide +kernel
theorem q30_45 : qD 30 45 (.istore 4) 2 47 ∧ 4 < mL 30 := by decide +kernel
theorem q30_47 : qD 30 47 (.iinc 5 1) 3 50 ∧ 5 < mL 30 ∧ Int32.ofInt (1) = (1 : Int32) := by decide +kernel
theorem q30_50 : qJ 30 50 (.goto (-44)) 53 (-44) 6 := by decide +kernel
theorem q30_53 : qD 30 53 (.iload 4) 2 55 := by decide +kernel
theorem q30_55 : qD 30 55 (.ireturn) 1 56 ∧ mR 30 = some .int := by decide +kernel
theorem q31_0 : qD 31 0 (.aload_n 2) 1 1 ∧ ((2 : Fin 4) : Nat) = 2 := by decide +kernel
theorem q31_1 : qG 31 1 27 4 7 0 238 2 := by decide +kernel
theorem q31_4 : qD 31 4 (.iconst 0) 1 5 ∧ Int32.ofInt (0) = (0 : Int32) := by decide +kernel
theorem q31_5 : qD 31 5 (.aload_n 1) 1 6 ∧ ((1 : Fin 4) : Nat) = 1 := by decide +kernel
theorem q31_6 : qD 31 6 (.invokevirtual 65) 3 9 ∧ qI 31 65 16 824 := by decide +kernel
theorem q31_9 : qD 31 9 (.iadd) 1 10 := by decide +kernel
theorem q31_10 : qD 31 10 (.iaload) 1 11 := by decide +kernel
theorem q31_11 : qD 31 11 (.istore 6) 2 13 ∧ 6 < mL 31 := by decide +kernel
theorem q31_13 : qD 31 13 (.iconst 0) 1 14 ∧ Int32.ofInt (0) = (0 : Int32) := by decide +kernel
theorem q31_14 : qD 31 14 (.istore 7) 2 16 ∧ 7 < mL 31 := by decide +kernel
theorem q31_16 : qD 31 16 (.aload_n 0) 1 17 ∧ ((0 : Fin 4) : Nat) = 0 := by decide +kernel
theorem q31_17 : qG 31 17 15 20 4 1 279 2 := by decide +kernel
theorem q31_20 : qD 31 20 (.iconst 0) 1 21 ∧ Int32.ofInt (0) = (0 : Int32) := by decide +kernel
theorem q31_21 : qD 31 21 (.invokestatic 68) 3 24 ∧ qI 31 68 322 825 := by decide +kernel
theorem q31_24 : qD 31 24 (.iconst 0) 1 25 ∧ Int32.ofInt (0) = (0 : Int32) := by decide +kernel
theorem q31_25 : qD 31 25 (.istore 8) 2 27 ∧ 8 < mL 31 := by decide +kernel
theorem q31_27 : qD 31 27 (.iload 8) 2 29 := by decide +kernel
theorem q31_29 : qD 31 29 (.aload_n 1) 1 30 ∧ ((1 : Fin 4) : Nat) = 1 := by decide +kernel
theorem q31_30 : qG 31 30 74 33 3 4 182 0 := by decide +kernel
theorem q31_33 : qJ 31 33 (.if_icmp .ge 124) 36 (124) 157 := by decide +kernel
theorem q31_36 : qD 31 36 (.aload_n 2) 1 37 ∧ ((2 : Fin 4) : Nat) = 2 := by decide +kernel
theorem q31_37 : qD 31 37 (.iload 8) 2 39 := by decide +kernel
theorem q31_39 : qD 31 39 (.invokevirtual 77) 3 42 ∧ qI 31 77 56 826 := by decide +kernel
theorem q31_42 : qJ 31 42 (.ifCond .eq 18) 45 (18) 60 := by decide +kernel
theorem q31_45 : qD 31 45 (.aload_n 1) 1 46 ∧ ((1 : Fin 4) : Nat) = 1 := by decide +kernel
theorem q31_46 : qD 31 46 (.iload 6) 2 48 := by decide +kernel
theorem q31_48 : qD 31 48 (.invokevirtual 81) 3 51 ∧ qI 31 81 23 827 := by decide +kernel
theorem q31_51 : qD 31 51 (.iload 8) 2 53 := by decide +kernel
theorem q31_53 : qJ 31 53 (.if_icmp .eq 7) 56 (7) 60 := by decide +kernel
theorem q31_56 : qD 31 56 (.iconst 1) 1 57 ∧ Int32.ofInt (1) = (1 : Int32) := by decide +kernel
theorem q31_57 : qJ 31 57 (.goto 4) 60 (4) 61 := by decide +kernel
theorem q31_60 : qD 31 60 (.iconst 0) 1 61 ∧ Int32.ofInt (0) = (0 : Int32) := by decide +kernel
theorem q31_61 : qD 31 61 (.istore 9) 2 63 ∧ 9 < mL 31 := by decide +kernel
theorem q31_63 : qD 31 63 (.iload 9) 2 65 := by decide +kernel
theorem q31_65 : qJ 31 65 (.ifCond .eq 86) 68 (86) 151 := by decide +kernel
theorem q31_68 : qD 31 68 (.iload 5) 2 70 := by decide +kernel
theorem q31_70 : qJ 31 70 (.ifCond .ne 17) 73 (17) 87 := by decide +kernel
theorem q31_73 : qD 31 73 (.aload_n 2) 1 74 ∧ ((2 : Fin 4) : Nat) = 2 := by decide +kernel
theorem q31_74 : qG 31 74 27 77 7 0 238 2 := by decide +kernel
theorem q31_77 : qD 31 77 (.bipush 31) 2 79 ∧ (Int8.ofInt (31)).toInt32 = (31 : Int32) := by decide +kernel
theorem q31_79 : qD 31 79 (.iaload) 1 80 := by decide +kernel
theorem q31_80 : qD 31 80 (.aload_n 1) 1 81 ∧ ((1 : Fin 4) : Nat) = 1 := by decide +kernel
theorem q31_81 : qD 31 81 (.invokevirtual 84) 3 84 ∧ qI 31 84 18 831 := by decide +kernel
theorem q31_84 : qJ 31 84 (.if_icmp .ge 67) 87 (67) 151 := by decide +kernel
theorem q31_87 : qD 31 87 (.aload_n 0) 1 88 ∧ ((0 : Fin 4) : Nat) = 0 := by decide +kernel
theorem q31_88 : qD 31 88 (.aload_n 1) 1 89 ∧ ((1 : Fin 4) : Nat) = 1 := by decide +kernel
theorem q31_89 : qD 31 89 (.aload_n 2) 1 90 ∧ ((2 : Fin 4) : Nat) = 2 := by decide +kernel
theorem q31_90 : qD 31 90 (.aload_n 3) 1 91 ∧ ((3 : Fin 4) : Nat) = 3 := by decide +kernel
theorem q31_91 : qD 31 91 (.iload 8) 2 93 := by decide +kernel
theorem q31_93 : qD 31 93 (.aload_n 1) 1 94 ∧ ((1 : Fin 4) : Nat) = 1 := by decide +kernel
theorem q31_94 : qD 31 94 (.invokevirtual 65) 3 97 ∧ qI 31 65 16 824 := by decide +kernel
theorem q31_97 : qD 31 97 (.invokevirtual 87) 3 100 ∧ qI 31 87 28 832 := by decide +kernel
theorem q31_100 : qD 31 100 (.aload_n 0) 1 101 ∧ ((0 : Fin 4) : Nat) = 0 := by decide +kernel
theorem q31_101 : qD 31 101 (.aload_n 1) 1 102 ∧ ((1 : Fin 4) : Nat) = 1 := by decide +kernel
theorem q31_102 : qD 31 102 (.aload_n 2) 1 103 ∧ ((2 : Fin 4) : Nat) = 2 := by decide +kernel
theorem q31_103 : qD 31 103 (.aload_n 1) 1 104 ∧ ((1 : Fin 4) : Nat) = 1 := by decide +kernel
theorem q31_104 : qD 31 104 (.invokevirtual 65) 3 107 ∧ qI 31 65 16 824 := by decide +kernel
theorem q31_107 : qD 31 107 (.invokevirtual 91) 3 110 ∧ qI 31 91 30 875 := by decide +kernel
theorem q31_110 : qD 31 110 (.istore 10) 2 112 ∧ 10 < mL 31 := by decide +kernel
theorem q31_112 : qD 31 112 (.aload_n 0) 1 113 ∧ ((0 : Fin 4) : Nat) = 0 := by decide +kernel
theorem q31_113 : qD 31 113 (.aload_n 2) 1 114 ∧ ((2 : Fin 4) : Nat) = 2 := by decide +kernel
theorem q31_114 : qD 31 114 (.iload 8) 2 116 := by decide +kernel
theorem q31_116 : qD 31 116 (.iload 10) 2 118 := by decide +kernel
theorem q31_118 : qD 31 118 (.iload 6) 2 120 := by decide +kernel
theorem q31_120 : qD 31 120 (.iload 4) 2 122 := by decide +kernel
theorem q31_122 : qD 31 122 (.invokevirtual 95) 3 125 ∧ qI 31 95 32 879 := by decide +kernel
theorem q31_125 : qD 31 125 (.iload 7) 2 127 := by decide +kernel
theorem q31_127 : qD 31 127 (.iload 10) 2 129 := by decide +kernel
theorem q31_129 : qD 31 129 (.invokestatic 99) 3 132 ∧ qI 31 99 295 887 := by decide +kernel
theorem q31_132 : qD 31 132 (.iadd) 1 133 := by decide +kernel
theorem q31_133 : qD 31 133 (.istore 7) 2 135 ∧ 7 < mL 31 := by decide +kernel
theorem q31_135 : qD 31 135 (.aload_n 2) 1 136 ∧ ((2 : Fin 4) : Nat) = 2 := by decide +kernel
theorem q31_136 : qG 31 136 27 139 7 0 238 2 := by decide +kernel
theorem q31_139 : qD 31 139 (.bipush 31) 2 141 ∧ (Int8.ofInt (31)).toInt32 = (31 : Int32) := by decide +kernel
theorem q31_141 : qD 31 141 (.dup2) 1 142 := by decide +kernel
theorem q31_142 : qD 31 142 (.iaload) 1 143 := by decide +kernel
theorem q31_143 : qD 31 143 (.aload_n 1) 1 144 ∧ ((1 : Fin 4) : Nat) = 1 := by decide +kernel
theorem q31_144 : qD 31 144 (.iload 8) 2 146 := by decide +kernel
theorem q31_146 : qD 31 146 (.invokevirtual 21) 3 149 ∧ qI 31 21 25 836 := by decide +kernel
theorem q31_149 : qD 31 149 (.iadd) 1 150 := by decide +kernel
theorem q31_150 : qD 31 150 (.iastore) 1 151 := by decide +kernel
theorem q31_151 : qD 31 151 (.iinc 8 1) 3 154 ∧ 8 < mL 31 ∧ Int32.ofInt (1) = (1 : Int32) := by decide +kernel
theorem q31_154 : qJ 31 154 (.goto (-127)) 157 (-127) 27 := by decide +kernel
theorem q31_157 : qD 31 157 (.iload 7) 2 159 := by decide +kernel
theorem q31_159 : qD 31 159 (.ireturn) 1 160 ∧ mR 31 = some .int := by decide +kernel
theorem q32_0 : qD 32 0 (.iconst 0) 1 1 ∧ Int32.ofInt (0) = (0 : Int32) := by decide +kernel
theorem q32_1 : qD 32 1 (.istore 6) 2 3 ∧ 6 < mL 32 := by decide +kernel
theorem q32_3 : qD 32 3 (.iload 6) 2 5 := by decide +kernel
theorem q32_5 : qD 32 5 (.bipush 7) 2 7 ∧ (Int8.ofInt (7)).toInt32 = (7 : Int32) := by decide +kernel
theorem q32_7 : qJ 32 7 (.if_icmp .ge 58) 10 (58) 65 := by decide +kernel
theorem q32_10 : qD 32 10 (.iload_n 3) 1 11 ∧ ((3 : Fin 4) : Nat) = 3 := by decide +kernel
theorem q32_11 : qD 32 11 (.iload 6) 2 13 := by decide +kernel
theorem q32_13 : qD 32 13 (.ishr) 1 14 := by decide +kernel
theorem q32_14 : qD 32 14 (.iconst 1) 1 15 ∧ Int32.ofInt (1) = (1 : Int32) := by decide +kernel
theorem q32_15 : qD 32 15 (.iand) 1 16 := by decide +kernel
theorem q32_16 : qD 32 16 (.iconst 1) 1 17 ∧ Int32.ofInt (1) = (1 : Int32) := by decide +kernel
theorem q32_17 : qJ 32 17 (.if_icmp .ne 42) 20 (42) 59 := by decide +kernel
theorem q32_20 : qD 32 20 (.aload_n 0) 1 21 ∧ ((0 : Fin 4) : Nat) = 0 := by decide +kernel
theorem q32_21 : qG 32 21 15 24 4 1 279 2 := by decide +kernel
theorem q32_24 : qD 32 24 (.iload 6) 2 26 := by decide +kernel
theorem q32_26 : qD 32 26 (.dup2) 1 27 := by decide +kernel
theorem q32_27 : qD 32 27 (.iaload) 1 28 := by decide +kernel
theorem q32_28 : qD 32 28 (.iconst 1) 1 29 ∧ Int32.ofInt (1) = (1 : Int32) := by decide +kernel
theorem q32_29 : qD 32 29 (.iload_n 2) 1 30 ∧ ((2 : Fin 4) : Nat) = 2 := by decide +kernel
theorem q32_30 : qD 32 30 (.ishl) 1 31 := by decide +kernel
theorem q32_31 : qD 32 31 (.ior) 1 32 := by decide +kernel
theorem q32_32 : qD 32 32 (.iastore) 1 33 := by decide +kernel
theorem q32_33 : qD 32 33 (.aload_n 1) 1 34 ∧ ((1 : Fin 4) : Nat) = 1 := by decide +kernel
theorem q32_34 : qG 32 34 27 37 7 0 238 2 := by decide +kernel
theorem q32_37 : qD 32 37 (.bipush 21) 2 39 ∧ (Int8.ofInt (21)).toInt32 = (21 : Int32) := by decide +kernel
theorem q32_39 : qD 32 39 (.iload 6) 2 41 := by decide +kernel
theorem q32_41 : qD 32 41 (.iadd) 1 42 := by decide +kernel
theorem q32_42 : qD 32 42 (.dup2) 1 43 := by decide +kernel
theorem q32_43 : qD 32 43 (.iaload) 1 44 := by decide +kernel
theorem q32_44 : qD 32 44 (.iconst 1) 1 45 ∧ Int32.ofInt (1) = (1 : Int32) := by decide +kernel
theorem q32_45 : qD 32 45 (.iload_n 2) 1 46 ∧ ((2 : Fin 4) : Nat) = 2 := by decide +kernel
theorem q32_46 : qD 32 46 (.ishl) 1 47 := by decide +kernel
theorem q32_47 : qD 32 47 (.ior) 1 48 := by decide +kernel
theorem q32_48 : qD 32 48 (.iastore) 1 49 := by decide +kernel
theorem q32_49 : qD 32 49 (.aload_n 1) 1 50 ∧ ((1 : Fin 4) : Nat) = 1 := by decide +kernel
theorem q32_50 : qD 32 50 (.iload 6) 2 52 := by decide +kernel
theorem q32_52 : qD 32 52 (.iload 4) 2 54 := by decide +kernel
theorem q32_54 : qD 32 54 (.iload 5) 2 56 := by decide +kernel
theorem q32_56 : qD 32 56 (.invokevirtual 104) 3 59 ∧ qI 32 104 61 883 := by decide +kernel
theorem q32_59 : qD 32 59 (.iinc 6 1) 3 62 ∧ 6 < mL 32 ∧ Int32.ofInt (1) = (1 : Int32) := by decide +kernel
theorem q32_62 : qJ 32 62 (.goto (-59)) 65 (-59) 3 := by decide +kernel
theorem q32_65 : qD 32 65 (.return_) 1 66 ∧ mR 32 = none := by decide +kernel
theorem q49_0 : qD 49 0 (.aload_n 0) 1 1 ∧ ((0 : Fin 4) : Nat) = 0 := by decide +kernel
theorem q49_1 : qD 49 1 (.invokespecial 3) 3 4 ∧ inG 221 (.methodLink (mN 49).cls 3 Lib.objectInit) := by decide +kernel
theorem q49_4 : qD 49 4 (.aload_n 0) 1 5 ∧ ((0 : Fin 4) : Nat) = 0 := by decide +kernel
theorem q49_5 : qD 49 5 (.bipush 48) 2 7 ∧ (Int8.ofInt (48)).toInt32 = (48 : Int32) := by decide +kernel
theorem q49_7 : qD 49 7 (.newarray .int) 2 9 ∧ (100 = 100 ∨ 100 = 101 ∨ 100 = 102 ∨ 100 = 103) ∧ newarray.typeOf .int = kty 100 ∧ inG 165 (.arrayClass (kty 100)) := by decide +kernel
theorem q49_9 : qP 49 9 11 12 6 0 222 2 := by decide +kernel
theorem q49_12 : qD 49 12 (.return_) 1 13 ∧ mR 49 = none := by decide +kernel
theorem q50_0 : qD 50 0 (.aload_n 0) 1 1 ∧ ((0 : Fin 4) : Nat) = 0 := by decide +kernel
theorem q50_1 : qD 50 1 (.iconst 0) 1 2 ∧ Int32.ofInt (0) = (0 : Int32) := by decide +kernel
theorem q50_2 : qP 50 2 15 5 6 1 223 0 := by decide +kernel
theorem q50_5 : qD 50 5 (.iconst 0) 1 6 ∧ Int32.ofInt (0) = (0 : Int32) := by decide +kernel
theorem q50_6 : qD 50 6 (.istore_n 2) 1 7 ∧ ((2 : Fin 4) : Nat) = 2 ∧ 2 < mL 50 := by decide +kernel
theorem q50_7 : qD 50 7 (.iload_n 2) 1 8 ∧ ((2 : Fin 4) : Nat) = 2 := by decide +kernel
theorem q50_8 : qD 50 8 (.bipush 16) 2 10 ∧ (Int8.ofInt (16)).toInt32 = (16 : Int32) := by decide +kernel
theorem q50_10 : qJ 50 10 (.if_icmp .ge 47) 13 (47) 57 := by decide +kernel
theorem q50_13 : qD 50 13 (.aload_n 0) 1 14 ∧ ((0 : Fin 4) : Nat) = 0 := by decide +kernel
theorem q50_14 : qD 50 14 (.aload_n 1) 1 15 ∧ ((1 : Fin 4) : Nat) = 1 := by decide +kernel
theorem q50_15 : qD 50 15 (.iload_n 2) 1 16 ∧ ((2 : Fin 4) : Nat) = 2 := by decide +kernel
theorem q50_16 : qD 50 16 (.iconst 3) 1 17 ∧ Int32.ofInt (3) = (3 : Int32) := by decide +kernel
theorem q50_17 : qD 50 17 (.imul) 1 18 := by decide +kernel
theorem q50_18 : qD 50 18 (.invokevirtual 19) 3 21 ∧ qI 50 19 51 644 := by decide +kernel
theorem q50_21 : qD 50 21 (.aload_n 0) 1 22 ∧ ((0 : Fin 4) : Nat) = 0 := by decide +kernel
theorem q50_22 : qD 50 22 (.dup) 1 23 := by decide +kernel
theorem q50_23 : qG 50 23 15 26 6 1 223 0 := by decide +kernel
theorem q50_26 : qD 50 26 (.iconst 1) 1 27 ∧ Int32.ofInt (1) = (1 : Int32) := by decide +kernel
theorem q50_27 : qD 50 27 (.iadd) 1 28 := by decide +kernel
theorem q50_28 : qP 50 28 15 31 6 1 223 0 := by decide +kernel
theorem q50_31 : qD 50 31 (.iload_n 2) 1 32 ∧ ((2 : Fin 4) : Nat) = 2 := by decide +kernel
theorem q50_32 : qD 50 32 (.iconst 1) 1 33 ∧ Int32.ofInt (1) = (1 : Int32) := by decide +kernel
theorem q50_33 : qD 50 33 (.iadd) 1 34 := by decide +kernel
theorem q50_34 : qD 50 34 (.bipush 16) 2 36 ∧ (Int8.ofInt (16)).toInt32 = (16 : Int32) := by decide +kernel
theorem q50_36 : qJ 50 36 (.if_icmp .eq 21) 39 (21) 57 := by decide +kernel
theorem q50_39 : qD 50 39 (.aload_n 1) 1 40 ∧ ((1 : Fin 4) : Nat) = 1 := by decide +kernel
theorem q50_40 : qD 50 40 (.bipush 59) 2 42 ∧ (Int8.ofInt (59)).toInt32 = (59 : Int32) := by decide +kernel
theorem q50_42 : qD 50 42 (.invokevirtual 23) 3 45 ∧ qI 50 23 71 656 := by decide +kernel
theorem q50_45 : qJ 50 45 (.ifCond .ne 6) 48 (6) 51 := by decide +kernel
theorem q50_48 : qJ 50 48 (.goto 9) 51 (9) 57 := by decide +kernel
theorem q50_51 : qD 50 51 (.iinc 2 1) 3 54 ∧ 2 < mL 50 ∧ Int32.ofInt (1) = (1 : Int32) := by decide +kernel
theorem q50_54 : qJ 50 54 (.goto (-47)) 57 (-47) 7 := by decide +kernel
theorem q50_57 : qD 50 57 (.aload_n 1) 1 58 ∧ ((1 : Fin 4) : Nat) = 1 := by decide +kernel
theorem q50_58 : qD 50 58 (.invokevirtual 29) 3 61 ∧ qI 50 29 73 657 := by decide +kernel
theorem q50_61 : qD 50 61 (.return_) 1 62 ∧ mR 50 = none := by decide +kernel
theorem q51_0 : qD 51 0 (.aload_n 1) 1 1 ∧ ((1 : Fin 4) : Nat) = 1 := by decide +kernel
theorem q51_1 : qD 51 1 (.ldc 32) 2 3 ∧ cR[4]? = some ((mN 51).cls, 32, "smtce", 4) := by decide +kernel
theorem q51_3 : qD 51 3 (.invokevirtual 34) 3 6 ∧ qI 51 34 76 649 := by decide +kernel
theorem q51_6 : qD 51 6 (.istore_n 3) 1 7 ∧ ((3 : Fin 4) : Nat) = 3 ∧ 3 < mL 51 := by decide +kernel
theorem q51_7 : qD 51 7 (.iload_n 3) 1 8 ∧ ((3 : Fin 4) : Nat) = 3 := by decide +kernel
theorem q51_8 : qD 51 8 (.iconst (-1)) 1 9 ∧ Int32.ofInt (-1) = (-1 : Int32) := by decide +kernel
theorem q51_9 : qJ 51 9 (.if_icmp .ne 8) 12 (8) 17 := by decide +kernel
theorem q51_12 : qD 51 12 (.aload_n 1) 1 13 ∧ ((1 : Fin 4) : Nat) = 1 := by decide +kernel
theorem q51_13 : qD 51 13 (.invokevirtual 38) 3 16 ∧ qI 51 38 74 650 := by decide +kernel
theorem q51_16 : qD 51 16 (.return_) 1 17 ∧ mR 51 = none := by decide +kernel
theorem q51_17 : qD 51 17 (.aload_n 1) 1 18 ∧ ((1 : Fin 4) : Nat) = 1 := by decide +kernel
theorem q51_18 : qD 51 18 (.invokevirtual 41) 3 21 ∧ qI 51 41 70 651 := by decide +kernel
theorem q51_21 : qD 51 21 (.aload_n 0) 1 22 ∧ ((0 : Fin 4) : Nat) = 0 := by decide +kernel
theorem q51_22 : qG 51 22 11 25 6 0 222 2 := by decide +kernel
theorem q51_25 : qD 51 25 (.iload_n 2) 1 26 ∧ ((2 : Fin 4) : Nat) = 2 := by decide +kernel
theorem q51_26 : qD 51 26 (.iload_n 3) 1 27 ∧ ((3 : Fin 4) : Nat) = 3 := by decide +kernel
theorem q51_27 : qD 51 27 (.iastore) 1 28 := by decide +kernel
theorem q51_28 : qD 51 28 (.aload_n 0) 1 29 ∧ ((0 : Fin 4) : Nat) = 0 := by decide +kernel
theorem q51_29 : qG 51 29 11 32 6 0 222 2 := by decide +kernel
theorem q51_32 : qD 51 32 (.iload_n 2) 1 33 ∧ ((2 : Fin 4) : Nat) = 2 := by decide +kernel
theorem q51_33 : qD 51 33 (.iconst 1) 1 34 ∧ Int32.ofInt (1) = (1 : Int32) := by decide +kernel
theorem q51_34 : qD 51 34 (.iadd) 1 35 := by decide +kernel
theorem q51_35 : qD 51 35 (.iload_n 3) 1 36 ∧ ((3 : Fin 4) : Nat) = 3 := by decide +kernel
theorem q51_36 : qJ 51 36 (.ifCond .eq 8) 39 (8) 44 := by decide +kernel
theorem q51_39 : qD 51 39 (.iload_n 3) 1 40 ∧ ((3 : Fin 4) : Nat) = 3 := by decide +kernel
theorem q51_40 : qD 51 40 (.iconst 1) 1 41 ∧ Int32.ofInt (1) = (1 : Int32) := by decide +kernel
theorem q51_41 : qJ 51 41 (.if_icmp .ne 10) 44 (10) 51 := by decide +kernel
theorem q51_44 : qD 51 44 (.aload_n 1) 1 45 ∧ ((1 : Fin 4) : Nat) = 1 := by decide +kernel
theorem q51_45 : qD 51 45 (.invokevirtual 44) 3 48 ∧ qI 51 44 77 652 := by decide +kernel
theorem q51_48 : qJ 51 48 (.goto 4) 51 (4) 52 := by decide +kernel
theorem q51_51 : qD 51 51 (.iconst (-1)) 1 52 ∧ Int32.ofInt (-1) = (-1 : Int32) := by decide +kernel
theorem q51_52 : qD 51 52 (.iastore) 1 53 := by decide +kernel
theorem q51_53 : qD 51 53 (.aload_n 0) 1 54 ∧ ((0 : Fin 4) : Nat) = 0 := by decide +kernel
theorem q51_54 : qG 51 54 11 57 6 0 222 2 := by decide +kernel
theorem q51_57 : qD 51 57 (.iload_n 2) 1 58 ∧ ((2 : Fin 4) : Nat) = 2 := by decide +kernel
theorem q51_58 : qD 51 58 (.iconst 2) 1 59 ∧ Int32.ofInt (2) = (2 : Int32) := by decide +kernel
theorem q51_59 : qD 51 59 (.iadd) 1 60 := by decide +kernel
theorem q51_60 : qD 51 60 (.iload_n 3) 1 61 ∧ ((3 : Fin 4) : Nat) = 3 := by decide +kernel
theorem q51_61 : qD 51 61 (.iconst 1) 1 62 ∧ Int32.ofInt (1) = (1 : Int32) := by decide +kernel
theorem q51_62 : qJ 51 62 (.if_icmp .ne 10) 65 (10) 72 := by decide +kernel
theorem q51_65 : qD 51 65 (.aload_n 1) 1 66 ∧ ((1 : Fin 4) : Nat) = 1 := by decide +kernel
theorem q51_66 : qD 51 66 (.invokevirtual 44) 3 69 ∧ qI 51 44 77 652 := by decide +kernel
theorem q51_69 : qJ 51 69 (.goto 4) 72 (4) 73 := by decide +kernel
theorem q51_72 : qD 51 72 (.iconst (-1)) 1 73 ∧ Int32.ofInt (-1) = (-1 : Int32) := by decide +kernel
theorem q51_73 : qD 51 73 (.iastore) 1 74 := by decide +kernel
theorem q51_74 : qD 51 74 (.return_) 1 75 ∧ mR 51 = none := by decide +kernel
theorem q52_0 : qD 52 0 (.aload_n 0) 1 1 ∧ ((0 : Fin 4) : Nat) = 0 := by decide +kernel
theorem q52_1 : qG 52 1 11 4 6 0 222 2 := by decide +kernel
theorem q52_4 : qD 52 4 (.iload_n 1) 1 5 ∧ ((1 : Fin 4) : Nat) = 1 := by decide +kernel
theorem q52_5 : qD 52 5 (.iconst 3) 1 6 ∧ Int32.ofInt (3) = (3 : Int32) := by decide +kernel
theorem q52_6 : qD 52 6 (.imul) 1 7 := by decide +kernel
theorem q52_7 : qD 52 7 (.iload_n 2) 1 8 ∧ ((2 : Fin 4) : Nat) = 2 := by decide +kernel
theorem q52_8 : qD 52 8 (.iadd) 1 9 := by decide +kernel
theorem q52_9 : qD 52 9 (.iaload) 1 10 := by decide +kernel
theorem q52_10 : qD 52 10 (.ireturn) 1 11 ∧ mR 52 = some .int := by decide +kernel
theorem q53_0 : qD 53 0 (.aload_n 0) 1 1 ∧ ((0 : Fin 4) : Nat) = 0 := by decide +kernel
theorem q53_1 : qD 53 1 (.invokespecial 3) 3 4 ∧ inG 235 (.methodLink (mN 53).cls 3 Lib.objectInit) := by decide +kernel
theorem q53_4 : qD 53 4 (.aload_n 0) 1 5 ∧ ((0 : Fin 4) : Nat) = 0 := by decide +kernel
theorem q53_5 : qD 53 5 (.bipush 33) 2 7 ∧ (Int8.ofInt (33)).toInt32 = (33 : Int32) := by decide +kernel
theorem q53_7 : qD 53 7 (.newarray .int) 2 9 ∧ (100 = 100 ∨ 100 = 101 ∨ 100 = 102 ∨ 100 = 103) ∧ newarray.typeOf .int = kty 100 ∧ inG 165 (.arrayClass (kty 100)) := by decide +kernel
theorem q53_9 : qP 53 9 9 12 7 0 236 2 := by decide +kernel
theorem q53_12 : qD 53 12 (.return_) 1 13 ∧ mR 53 = none := by decide +kernel
theorem q54_0 : qD 54 0 (.aload_n 0) 1 1 ∧ ((0 : Fin 4) : Nat) = 0 := by decide +kernel
theorem q54_1 : qG 54 1 9 4 7 0 236 2 := by decide +kernel
theorem q54_4 : qD 54 4 (.iconst 0) 1 5 ∧ Int32.ofInt (0) = (0 : Int32) := by decide +kernel
theorem q54_5 : qD 54 5 (.invokestatic 15) 3 8 ∧ qI 54 15 322 671 := by decide +kernel
theorem q54_8 : qD 54 8 (.iconst 0) 1 9 ∧ Int32.ofInt (0) = (0 : Int32) := by decide +kernel
theorem q54_9 : qD 54 9 (.istore_n 2) 1 10 ∧ ((2 : Fin 4) : Nat) = 2 ∧ 2 < mL 54 := by decide +kernel
theorem q54_10 : qD 54 10 (.iload_n 2) 1 11 ∧ ((2 : Fin 4) : Nat) = 2 := by decide +kernel
theorem q54_11 : qD 54 11 (.aload_n 1) 1 12 ∧ ((1 : Fin 4) : Nat) = 1 := by decide +kernel
theorem q54_12 : qG 54 12 21 15 3 3 177 0 := by decide +kernel
theorem q54_15 : qJ 54 15 (.if_icmp .ge 32) 18 (32) 47 := by decide +kernel
theorem q54_18 : qD 54 18 (.aload_n 0) 1 19 ∧ ((0 : Fin 4) : Nat) = 0 := by decide +kernel
theorem q54_19 : qG 54 19 9 22 7 0 236 2 := by decide +kernel
theorem q54_22 : qD 54 22 (.iconst 0) 1 23 ∧ Int32.ofInt (0) = (0 : Int32) := by decide +kernel
theorem q54_23 : qD 54 23 (.iload_n 2) 1 24 ∧ ((2 : Fin 4) : Nat) = 2 := by decide +kernel
theorem q54_24 : qD 54 24 (.iadd) 1 25 := by decide +kernel
theorem q54_25 : qD 54 25 (.iload_n 2) 1 26 ∧ ((2 : Fin 4) : Nat) = 2 := by decide +kernel
theorem q54_26 : qD 54 26 (.iastore) 1 27 := by decide +kernel
theorem q54_27 : qD 54 27 (.aload_n 0) 1 28 ∧ ((0 : Fin 4) : Nat) = 0 := by decide +kernel
theorem q54_28 : qG 54 28 9 31 7 0 236 2 := by decide +kernel
theorem q54_31 : qD 54 31 (.bipush 7) 2 33 ∧ (Int8.ofInt (7)).toInt32 = (7 : Int32) := by decide +kernel
theorem q54_33 : qD 54 33 (.iload_n 2) 1 34 ∧ ((2 : Fin 4) : Nat) = 2 := by decide +kernel
theorem q54_34 : qD 54 34 (.iadd) 1 35 := by decide +kernel
theorem q54_35 : qD 54 35 (.aload_n 1) 1 36 ∧ ((1 : Fin 4) : Nat) = 1 := by decide +kernel
theorem q54_36 : qD 54 36 (.iload_n 2) 1 37 ∧ ((2 : Fin 4) : Nat) = 2 := by decide +kernel
theorem q54_37 : qD 54 37 (.invokevirtual 27) 3 40 ∧ qI 54 27 24 674 := by decide +kernel
theorem q54_40 : qD 54 40 (.iastore) 1 41 := by decide +kernel
theorem q54_41 : qD 54 41 (.iinc 2 1) 3 44 ∧ 2 < mL 54 ∧ Int32.ofInt (1) = (1 : Int32) := by decide +kernel
theorem q54_44 : qJ 54 44 (.goto (-34)) 47 (-34) 10 := by decide +kernel
theorem q54_47 : qD 54 47 (.return_) 1 48 ∧ mR 54 = none := by decide +kernel
theorem q55_0 : qD 55 0 (.aload_n 1) 1 1 ∧ ((1 : Fin 4) : Nat) = 1 := by decide +kernel
theorem q55_1 : qG 55 1 9 4 7 0 236 2 := by decide +kernel
theorem q55_4 : qD 55 4 (.iconst 0) 1 5 ∧ Int32.ofInt (0) = (0 : Int32) := by decide +kernel
theorem q55_5 : qD 55 5 (.aload_n 0) 1 6 ∧ ((0 : Fin 4) : Nat) = 0 := by decide +kernel
theorem q55_6 : qG 55 6 9 9 7 0 236 2 := by decide +kernel
theorem q55_9 : qD 55 9 (.iconst 0) 1 10 ∧ Int32.ofInt (0) = (0 : Int32) := by decide +kernel
theorem q55_10 : qD 55 10 (.bipush 33) 2 12 ∧ (Int8.ofInt (33)).toInt32 = (33 : Int32) := by decide +kernel
theorem q55_12 : qD 55 12 (.invokestatic 31) 3 15 ∧ inG 961 (.methodLink (mN 55).cls 31 arraycopyName) := by decide +kernel
theorem q55_15 : qD 55 15 (.return_) 1 16 ∧ mR 55 = none := by decide +kernel
theorem q56_0 : qD 56 0 (.aload_n 0) 1 1 ∧ ((0 : Fin 4) : Nat) = 0 := by decide +kernel
theorem q56_1 : qG 56 1 9 4 7 0 236 2 := by decide +kernel
theorem q56_4 : qD 56 4 (.bipush 28) 2 6 ∧ (Int8.ofInt (28)).toInt32 = (28 : Int32) := by decide +kernel
theorem q56_6 : qD 56 6 (.iaload) 1 7 := by decide +kernel
theorem q56_7 : qD 56 7 (.iload_n 1) 1 8 ∧ ((1 : Fin 4) : Nat) = 1 := by decide +kernel
theorem q56_8 : qD 56 8 (.ishr) 1 9 := by decide +kernel
theorem q56_9 : qD 56 9 (.iconst 1) 1 10 ∧ Int32.ofInt (1) = (1 : Int32) := by decide +kernel
theorem q56_10 : qD 56 10 (.iand) 1 11 := by decide +kernel
theorem q56_11 : qD 56 11 (.iconst 1) 1 12 ∧ Int32.ofInt (1) = (1 : Int32) := by decide +kernel
theorem q56_12 : qJ 56 12 (.if_icmp .ne 7) 15 (7) 19 := by decide +kernel
theorem q56_15 : qD 56 15 (.iconst 1) 1 16 ∧ Int32.ofInt (1) = (1 : Int32) := by decide +kernel
theorem q56_16 : qJ 56 16 (.goto 4) 19 (4) 20 := by decide +kernel
theorem q56_19 : qD 56 19 (.iconst 0) 1 20 ∧ Int32.ofInt (0) = (0 : Int32) := by decide +kernel
theorem q56_20 : qD 56 20 (.ireturn) 1 21 ∧ mR 56 = some .boolean := by decide +kernel
theorem q57_0 : qD 57 0 (.iconst 0) 1 1 ∧ Int32.ofInt (0) = (0 : Int32) := by decide +kernel
theorem q57_1 : qD 57 1 (.istore_n 3) 1 2 ∧ ((3 : Fin 4) : Nat) = 3 ∧ 3 < mL 57 := by decide +kernel
theorem q57_2 : qD 57 2 (.iload_n 3) 1 3 ∧ ((3 : Fin 4) : Nat) = 3 := by decide +kernel
theorem q57_3 : qD 57 3 (.iload_n 2) 1 4 ∧ ((2 : Fin 4) : Nat) = 2 := by decide +kernel
theorem q57_4 : qD 57 4 (.iconst 1) 1 5 ∧ Int32.ofInt (1) = (1 : Int32) := by decide +kernel
theorem q57_5 : qD 57 5 (.isub) 1 6 := by decide +kernel
theorem q57_6 : qJ 57 6 (.if_icmp .ge 21) 9 (21) 27 := by decide +kernel
theorem q57_9 : qD 57 9 (.aload_n 0) 1 10 ∧ ((0 : Fin 4) : Nat) = 0 := by decide +kernel
theorem q57_10 : qG 57 10 9 13 7 0 236 2 := by decide +kernel
theorem q57_13 : qD 57 13 (.iconst 0) 1 14 ∧ Int32.ofInt (0) = (0 : Int32) := by decide +kernel
theorem q57_14 : qD 57 14 (.iload_n 3) 1 15 ∧ ((3 : Fin 4) : Nat) = 3 := by decide +kernel
theorem q57_15 : qD 57 15 (.iadd) 1 16 := by decide +kernel
theorem q57_16 : qD 57 16 (.iaload) 1 17 := by decide +kernel
theorem q57_17 : qD 57 17 (.iload_n 1) 1 18 ∧ ((1 : Fin 4) : Nat) = 1 := by decide +kernel
theorem q57_18 : qJ 57 18 (.if_icmp .eq 9) 21 (9) 27 := by decide +kernel
theorem q57_21 : qD 57 21 (.iinc 3 1) 3 24 ∧ 3 < mL 57 ∧ Int32.ofInt (1) = (1 : Int32) := by decide +kernel
theorem q57_24 : qJ 57 24 (.goto (-22)) 27 (-22) 2 := by decide +kernel
theorem q57_27 : qD 57 27 (.iload_n 3) 1 28 ∧ ((3 : Fin 4) : Nat) = 3 := by decide +kernel
theorem q57_28 : qD 57 28 (.ireturn) 1 29 ∧ mR 57 = some .int := by decide +kernel
theorem q58_0 : qD 58 0 (.aload_n 0) 1 1 ∧ ((0 : Fin 4) : Nat) = 0 := by decide +kernel
theorem q58_1 : qD 58 1 (.iload_n 1) 1 2 ∧ ((1 : Fin 4) : Nat) = 1 := by decide +kernel
theorem q58_2 : qD 58 2 (.iload_n 3) 1 3 ∧ ((3 : Fin 4) : Nat) = 3 := by decide +kernel
theorem q58_3 : qD 58 3 (.invokevirtual 37) 3 6 ∧ qI 58 37 57 808 := by decide +kernel
theorem q58_6 : qD 58 6 (.istore 4) 2 8 ∧ 4 < mL 58 := by decide +kernel
theorem q58_8 : qD 58 8 (.aload_n 0) 1 9 ∧ ((0 : Fin 4) : Nat) = 0 := by decide +kernel
theorem q58_9 : qD 58 9 (.iload_n 2) 1 10 ∧ ((2 : Fin 4) : Nat) = 2 := by decide +kernel
theorem q58_10 : qD 58 10 (.iload_n 3) 1 11 ∧ ((3 : Fin 4) : Nat) = 3 := by decide +kernel
theorem q58_11 : qD 58 11 (.invokevirtual 37) 3 14 ∧ qI 58 37 57 808 := by decide +kernel
theorem q58_14 : qD 58 14 (.istore 5) 2 16 ∧ 5 < mL 58 := by decide +kernel
theorem q58_16 : qD 58 16 (.aload_n 0) 1 17 ∧ ((0 : Fin 4) : Nat) = 0 := by decide +kernel
theorem q58_17 : qG 58 17 9 20 7 0 236 2 := by decide +kernel
theorem q58_20 : qD 58 20 (.iconst 0) 1 21 ∧ Int32.ofInt (0) = (0 : Int32) := by decide +kernel
theorem q58_21 : qD 58 21 (.iload 4) 2 23 := by decide +kernel
theorem q58_23 : qD 58 23 (.iadd) 1 24 := by decide +kernel
theorem q58_24 : qD 58 24 (.iload_n 2) 1 25 ∧ ((2 : Fin 4) : Nat) = 2 := by decide +kernel
theorem q58_25 : qD 58 25 (.iastore) 1 26 := by decide +kernel
theorem q58_26 : qD 58 26 (.aload_n 0) 1 27 ∧ ((0 : Fin 4) : Nat) = 0 := by decide +kernel
theorem q58_27 : qG 58 27 9 30 7 0 236 2 := by decide +kernel
theorem q58_30 : qD 58 30 (.iconst 0) 1 31 ∧ Int32.ofInt (0) = (0 : Int32) := by decide +kernel
theorem q58_31 : qD 58 31 (.iload 5) 2 33 := by decide +kernel
theorem q58_33 : qD 58 33 (.iadd) 1 34 := by decide +kernel
theorem q58_34 : qD 58 34 (.iload_n 1) 1 35 ∧ ((1 : Fin 4) : Nat) = 1 := by decide +kernel
theorem q58_35 : qD 58 35 (.iastore) 1 36 := by decide +kernel
theorem q58_36 : qD 58 36 (.return_) 1 37 ∧ mR 58 = none := by decide +kernel
theorem q59_0 : qD 59 0 (.iconst 0) 1 1 ∧ Int32.ofInt (0) = (0 : Int32) := by decide +kernel
theorem q59_1 : qD 59 1 (.istore_n 2) 1 2 ∧ ((2 : Fin 4) : Nat) = 2 ∧ 2 < mL 59 := by decide +kernel
theorem q59_2 : qD 59 2 (.iconst 1) 1 3 ∧ Int32.ofInt (1) = (1 : Int32) := by decide +kernel
theorem q59_3 : qD 59 3 (.istore_n 3) 1 4 ∧ ((3 : Fin 4) : Nat) = 3 ∧ 3 < mL 59 := by decide +kernel
theorem q59_4 : qD 59 4 (.iload_n 3) 1 5 ∧ ((3 : Fin 4) : Nat) = 3 := by decide +kernel
theorem q59_5 : qD 59 5 (.iload_n 1) 1 6 ∧ ((1 : Fin 4) : Nat) = 1 := by decide +kernel
theorem q59_6 : qJ 59 6 (.if_icmp .ge 32) 9 (32) 38 := by decide +kernel
theorem q59_9 : qD 59 9 (.aload_n 0) 1 10 ∧ ((0 : Fin 4) : Nat) = 0 := by decide +kernel
theorem q59_10 : qG 59 10 9 13 7 0 236 2 := by decide +kernel
theorem q59_13 : qD 59 13 (.bipush 7) 2 15 ∧ (Int8.ofInt (7)).toInt32 = (7 : Int32) := by decide +kernel
theorem q59_15 : qD 59 15 (.iload_n 3) 1 16 ∧ ((3 : Fin 4) : Nat) = 3 := by decide +kernel
theorem q59_16 : qD 59 16 (.iadd) 1 17 := by decide +kernel
theorem q59_17 : qD 59 17 (.iaload) 1 18 := by decide +kernel
theorem q59_18 : qD 59 18 (.aload_n 0) 1 19 ∧ ((0 : Fin 4) : Nat) = 0 := by decide +kernel
theorem q59_19 : qG 59 19 9 22 7 0 236 2 := by decide +kernel
theorem q59_22 : qD 59 22 (.bipush 7) 2 24 ∧ (Int8.ofInt (7)).toInt32 = (7 : Int32) := by decide +kernel
theorem q59_24 : qD 59 24 (.iload_n 2) 1 25 ∧ ((2 : Fin 4) : Nat) = 2 := by decide +kernel
theorem q59_25 : qD 59 25 (.iadd) 1 26 := by decide +kernel
theorem q59_26 : qD 59 26 (.iaload) 1 27 := by decide +kernel
theorem q59_27 : qJ 59 27 (.if_icmp .le 5) 30 (5) 32 := by decide +kernel
theorem q59_30 : qD 59 30 (.iload_n 3) 1 31 ∧ ((3 : Fin 4) : Nat) = 3 := by decide +kernel
theorem q59_31 : qD 59 31 (.istore_n 2) 1 32 ∧ ((2 : Fin 4) : Nat) = 2 ∧ 2 < mL 59 := by decide +kernel
theorem q59_32 : qD 59 32 (.iinc 3 1) 3 35 ∧ 3 < mL 59 ∧ Int32.ofInt (1) = (1 : Int32) := by decide +kernel
theorem q59_35 : qJ 59 35 (.goto (-31)) 38 (-31) 4 := by decide +kernel
theorem q59_38 : qD 59 38 (.iload_n 2) 1 39 ∧ ((2 : Fin 4) : Nat) = 2 := by decide +kernel
theorem q59_39 : qD 59 39 (.ireturn) 1 40 ∧ mR 59 = some .int := by decide +kernel
theorem q60_0 : qD 60 0 (.iconst 0) 1 1 ∧ Int32.ofInt (0) = (0 : Int32) := by decide +kernel
theorem q60_1 : qD 60 1 (.istore_n 2) 1 2 ∧ ((2 : Fin 4) : Nat) = 2 ∧ 2 < mL 60 := by decide +kernel
theorem q60_2 : qD 60 2 (.iconst 0) 1 3 ∧ Int32.ofInt (0) = (0 : Int32) := by decide +kernel
theorem q60_3 : qD 60 3 (.istore_n 3) 1 4 ∧ ((3 : Fin 4) : Nat) = 3 ∧ 3 < mL 60 := by decide +kernel
theorem q60_4 : qD 60 4 (.iload_n 3) 1 5 ∧ ((3 : Fin 4) : Nat) = 3 := by decide +kernel
theorem q60_5 : qD 60 5 (.iload_n 1) 1 6 ∧ ((1 : Fin 4) : Nat) = 1 := by decide +kernel
theorem q60_6 : qJ 60 6 (.if_icmp .ge 21) 9 (21) 27 := by decide +kernel
theorem q60_9 : qD 60 9 (.iload_n 2) 1 10 ∧ ((2 : Fin 4) : Nat) = 2 := by decide +kernel
theorem q60_10 : qD 60 10 (.aload_n 0) 1 11 ∧ ((0 : Fin 4) : Nat) = 0 := by decide +kernel
theorem q60_11 : qG 60 11 9 14 7 0 236 2 := by decide +kernel
theorem q60_14 : qD 60 14 (.bipush 7) 2 16 ∧ (Int8.ofInt (7)).toInt32 = (7 : Int32) := by decide +kernel
theorem q60_16 : qD 60 16 (.iload_n 3) 1 17 ∧ ((3 : Fin 4) : Nat) = 3 := by decide +kernel
theorem q60_17 : qD 60 17 (.iadd) 1 18 := by decide +kernel
theorem q60_18 : qD 60 18 (.iaload) 1 19 := by decide +kernel
theorem q60_19 : qD 60 19 (.iadd) 1 20 := by decide +kernel
theorem q60_20 : qD 60 20 (.istore_n 2) 1 21 ∧ ((2 : Fin 4) : Nat) = 2 ∧ 2 < mL 60 := by decide +kernel
theorem q60_21 : qD 60 21 (.iinc 3 1) 3 24 ∧ 3 < mL 60 ∧ Int32.ofInt (1) = (1 : Int32) := by decide +kernel
theorem q60_24 : qJ 60 24 (.goto (-20)) 27 (-20) 4 := by decide +kernel
theorem q60_27 : qD 60 27 (.iload_n 2) 1 28 ∧ ((2 : Fin 4) : Nat) = 2 := by decide +kernel
theorem q60_28 : qD 60 28 (.ireturn) 1 29 ∧ mR 60 = some .int := by decide +kernel
theorem q61_0 : qD 61 0 (.aload_n 0) 1 1 ∧ ((0 : Fin 4) : Nat) = 0 := by decide +kernel
theorem q61_1 : qG 61 1 9 4 7 0 236 2 := by decide +kernel
theorem q61_4 : qD 61 4 (.bipush 7) 2 6 ∧ (Int8.ofInt (7)).toInt32 = (7 : Int32) := by decide +kernel
theorem q61_6 : qD 61 6 (.iload_n 1) 1 7 ∧ ((1 : Fin 4) : Nat) = 1 := by decide +kernel
theorem q61_7 : qD 61 7 (.iadd) 1 8 := by decide +kernel
theorem q61_8 : qD 61 8 (.iaload) 1 9 := by decide +kernel
theorem q61_9 : qD 61 9 (.iload_n 3) 1 10 ∧ ((3 : Fin 4) : Nat) = 3 := by decide +kernel
theorem q61_10 : qJ 61 10 (.if_icmp .lt 29) 13 (29) 39 := by decide +kernel
theorem q61_13 : qD 61 13 (.aload_n 0) 1 14 ∧ ((0 : Fin 4) : Nat) = 0 := by decide +kernel
theorem q61_14 : qG 61 14 9 17 7 0 236 2 := by decide +kernel
theorem q61_17 : qD 61 17 (.bipush 7) 2 19 ∧ (Int8.ofInt (7)).toInt32 = (7 : Int32) := by decide +kernel
theorem q61_19 : qD 61 19 (.iload_n 1) 1 20 ∧ ((1 : Fin 4) : Nat) = 1 := by decide +kernel
theorem q61_20 : qD 61 20 (.iadd) 1 21 := by decide +kernel
theorem q61_21 : qD 61 21 (.dup2) 1 22 := by decide +kernel
theorem q61_22 : qD 61 22 (.iaload) 1 23 := by decide +kernel
theorem q61_23 : qD 61 23 (.iload_n 3) 1 24 ∧ ((3 : Fin 4) : Nat) = 3 := by decide +kernel
theorem q61_24 : qD 61 24 (.isub) 1 25 := by decide +kernel
theorem q61_25 : qD 61 25 (.iastore) 1 26 := by decide +kernel
theorem q61_26 : qD 61 26 (.aload_n 0) 1 27 ∧ ((0 : Fin 4) : Nat) = 0 := by decide +kernel
theorem q61_27 : qG 61 27 9 30 7 0 236 2 := by decide +kernel
theorem q61_30 : qD 61 30 (.bipush 7) 2 32 ∧ (Int8.ofInt (7)).toInt32 = (7 : Int32) := by decide +kernel
theorem q61_32 : qD 61 32 (.iload_n 2) 1 33 ∧ ((2 : Fin 4) : Nat) = 2 := by decide +kernel
theorem q61_33 : qD 61 33 (.iadd) 1 34 := by decide +kernel
theorem q61_34 : qD 61 34 (.dup2) 1 35 := by decide +kernel
theorem q61_35 : qD 61 35 (.iaload) 1 36 := by decide +kernel
theorem q61_36 : qD 61 36 (.iload_n 3) 1 37 ∧ ((3 : Fin 4) : Nat) = 3 := by decide +kernel
theorem q61_37 : qD 61 37 (.iadd) 1 38 := by decide +kernel
theorem q61_38 : qD 61 38 (.iastore) 1 39 := by decide +kernel
theorem q61_39 : qD 61 39 (.return_) 1 40 ∧ mR 61 = none := by decide +kernel
theorem q62_0 : qD 62 0 (.aload_n 0) 1 1 ∧ ((0 : Fin 4) : Nat) = 0 := by decide +kernel
theorem q62_1 : qG 62 1 9 4 7 0 236 2 := by decide +kernel
theorem q62_4 : qD 62 4 (.bipush 21) 2 6 ∧ (Int8.ofInt (21)).toInt32 = (21 : Int32) := by decide +kernel
theorem q62_6 : qD 62 6 (.iload_n 1) 1 7 ∧ ((1 : Fin 4) : Nat) = 1 := by decide +kernel
theorem q62_7 : qD 62 7 (.iadd) 1 8 := by decide +kernel
theorem q62_8 : qD 62 8 (.dup2) 1 9 := by decide +kernel
theorem q62_9 : qD 62 9 (.iaload) 1 10 := by decide +kernel
theorem q62_10 : qD 62 10 (.aload_n 0) 1 11 ∧ ((0 : Fin 4) : Nat) = 0 := by decide +kernel
theorem q62_11 : qG 62 11 9 14 7 0 236 2 := by decide +kernel
theorem q62_14 : qD 62 14 (.bipush 28) 2 16 ∧ (Int8.ofInt (28)).toInt32 = (28 : Int32) := by decide +kernel
theorem q62_16 : qD 62 16 (.iaload) 1 17 := by decide +kernel
theorem q62_17 : qD 62 17 (.ior) 1 18 := by decide +kernel
theorem q62_18 : qD 62 18 (.iastore) 1 19 := by decide +kernel
theorem q62_19 : qD 62 19 (.iconst 0) 1 20 ∧ Int32.ofInt (0) = (0 : Int32) := by decide +kernel
theorem q62_20 : qD 62 20 (.istore 4) 2 22 ∧ 4 < mL 62 := by decide +kernel
theorem q62_22 : qD 62 22 (.iload 4) 2 24 := by decide +kernel
theorem q62_24 : qD 62 24 (.iload_n 3) 1 25 ∧ ((3 : Fin 4) : Nat) = 3 := by decide +kernel
theorem q62_25 : qJ 62 25 (.if_icmp .ge 40) 28 (40) 65 := by decide +kernel
theorem q62_28 : qD 62 28 (.aload_n 0) 1 29 ∧ ((0 : Fin 4) : Nat) = 0 := by decide +kernel
theorem q62_29 : qG 62 29 9 32 7 0 236 2 := by decide +kernel
theorem q62_32 : qD 62 32 (.bipush 21) 2 34 ∧ (Int8.ofInt (21)).toInt32 = (21 : Int32) := by decide +kernel
theorem q62_34 : qD 62 34 (.iload 4) 2 36 := by decide +kernel
theorem q62_36 : qD 62 36 (.iadd) 1 37 := by decide +kernel
theorem q62_37 : qD 62 37 (.dup2) 1 38 := by decide +kernel
theorem q62_38 : qD 62 38 (.iaload) 1 39 := by decide +kernel
theorem q62_39 : qD 62 39 (.aload_n 0) 1 40 ∧ ((0 : Fin 4) : Nat) = 0 := by decide +kernel
theorem q62_40 : qG 62 40 9 43 7 0 236 2 := by decide +kernel
theorem q62_43 : qD 62 43 (.bipush 28) 2 45 ∧ (Int8.ofInt (28)).toInt32 = (28 : Int32) := by decide +kernel
theorem q62_45 : qD 62 45 (.iaload) 1 46 := by decide +kernel
theorem q62_46 : qD 62 46 (.aload_n 0) 1 47 ∧ ((0 : Fin 4) : Nat) = 0 := by decide +kernel
theorem q62_47 : qG 62 47 9 50 7 0 236 2 := by decide +kernel
theorem q62_50 : qD 62 50 (.bipush 14) 2 52 ∧ (Int8.ofInt (14)).toInt32 = (14 : Int32) := by decide +kernel
theorem q62_52 : qD 62 52 (.iload 4) 2 54 := by decide +kernel
theorem q62_54 : qD 62 54 (.iadd) 1 55 := by decide +kernel
theorem q62_55 : qD 62 55 (.iaload) 1 56 := by decide +kernel
theorem q62_56 : qD 62 56 (.iand) 1 57 := by decide +kernel
theorem q62_57 : qD 62 57 (.ior) 1 58 := by decide +kernel
theorem q62_58 : qD 62 58 (.iastore) 1 59 := by decide +kernel
theorem q62_59 : qD 62 59 (.iinc 4 1) 3 62 ∧ 4 < mL 62 ∧ Int32.ofInt (1) = (1 : Int32) := by decide +kernel
theorem q62_62 : qJ 62 62 (.goto (-40)) 65 (-40) 22 := by decide +kernel
theorem q62_65 : qD 62 65 (.aload_n 0) 1 66 ∧ ((0 : Fin 4) : Nat) = 0 := by decide +kernel
theorem q62_66 : qG 62 66 9 69 7 0 236 2 := by decide +kernel
theorem q62_69 : qD 62 69 (.bipush 29) 2 71 ∧ (Int8.ofInt (29)).toInt32 = (29 : Int32) := by decide +kernel
theorem q62_71 : qD 62 71 (.iload_n 2) 1 72 ∧ ((2 : Fin 4) : Nat) = 2 := by decide +kernel
theorem q62_72 : qD 62 72 (.iastore) 1 73 := by decide +kernel
theorem q62_73 : qD 62 73 (.aload_n 0) 1 74 ∧ ((0 : Fin 4) : Nat) = 0 := by decide +kernel
theorem q62_74 : qG 62 74 9 77 7 0 236 2 := by decide +kernel
theorem q62_77 : qD 62 77 (.bipush 30) 2 79 ∧ (Int8.ofInt (30)).toInt32 = (30 : Int32) := by decide +kernel
theorem q62_79 : qD 62 79 (.iconst 1) 1 80 ∧ Int32.ofInt (1) = (1 : Int32) := by decide +kernel
theorem q62_80 : qD 62 80 (.iastore) 1 81 := by decide +kernel
theorem q62_81 : qD 62 81 (.return_) 1 82 ∧ mR 62 = none := by decide +kernel
theorem q63_0 : qD 63 0 (.iconst 0) 1 1 ∧ Int32.ofInt (0) = (0 : Int32) := by decide +kernel
theorem q63_1 : qD 63 1 (.istore_n 1) 1 2 ∧ ((1 : Fin 4) : Nat) = 1 ∧ 1 < mL 63 := by decide +kernel
theorem q63_2 : qD 63 2 (.iload_n 1) 1 3 ∧ ((1 : Fin 4) : Nat) = 1 := by decide +kernel
theorem q63_3 : qD 63 3 (.bipush 7) 2 5 ∧ (Int8.ofInt (7)).toInt32 = (7 : Int32) := by decide +kernel
theorem q63_5 : qJ 63 5 (.if_icmp .ge 19) 8 (19) 24 := by decide +kernel
theorem q63_8 : qD 63 8 (.aload_n 0) 1 9 ∧ ((0 : Fin 4) : Nat) = 0 := by decide +kernel
theorem q63_9 : qG 63 9 9 12 7 0 236 2 := by decide +kernel
theorem q63_12 : qD 63 12 (.bipush 21) 2 14 ∧ (Int8.ofInt (21)).toInt32 = (21 : Int32) := by decide +kernel
theorem q63_14 : qD 63 14 (.iload_n 1) 1 15 ∧ ((1 : Fin 4) : Nat) = 1 := by decide +kernel
theorem q63_15 : qD 63 15 (.iadd) 1 16 := by decide +kernel
theorem q63_16 : qD 63 16 (.iconst 0) 1 17 ∧ Int32.ofInt (0) = (0 : Int32) := by decide +kernel
theorem q63_17 : qD 63 17 (.iastore) 1 18 := by decide +kernel
theorem q63_18 : qD 63 18 (.iinc 1 1) 3 21 ∧ 1 < mL 63 ∧ Int32.ofInt (1) = (1 : Int32) := by decide +kernel
theorem q63_21 : qJ 63 21 (.goto (-19)) 24 (-19) 2 := by decide +kernel
theorem q63_24 : qD 63 24 (.aload_n 0) 1 25 ∧ ((0 : Fin 4) : Nat) = 0 := by decide +kernel
theorem q63_25 : qG 63 25 9 28 7 0 236 2 := by decide +kernel
theorem q63_28 : qD 63 28 (.bipush 28) 2 30 ∧ (Int8.ofInt (28)).toInt32 = (28 : Int32) := by decide +kernel
theorem q63_30 : qD 63 30 (.iconst 0) 1 31 ∧ Int32.ofInt (0) = (0 : Int32) := by decide +kernel
theorem q63_31 : qD 63 31 (.iastore) 1 32 := by decide +kernel
theorem q63_32 : qD 63 32 (.aload_n 0) 1 33 ∧ ((0 : Fin 4) : Nat) = 0 := by decide +kernel
theorem q63_33 : qG 63 33 9 36 7 0 236 2 := by decide +kernel
theorem q63_36 : qD 63 36 (.bipush 29) 2 38 ∧ (Int8.ofInt (29)).toInt32 = (29 : Int32) := by decide +kernel
theorem q63_38 : qD 63 38 (.iconst 0) 1 39 ∧ Int32.ofInt (0) = (0 : Int32) := by decide +kernel
theorem q63_39 : qD 63 39 (.iastore) 1 40 := by decide +kernel
theorem q63_40 : qD 63 40 (.aload_n 0) 1 41 ∧ ((0 : Fin 4) : Nat) = 0 := by decide +kernel
theorem q63_41 : qG 63 41 9 44 7 0 236 2 := by decide +kernel
theorem q63_44 : qD 63 44 (.bipush 30) 2 46 ∧ (Int8.ofInt (30)).toInt32 = (30 : Int32) := by decide +kernel
theorem q63_46 : qD 63 46 (.iconst 0) 1 47 ∧ Int32.ofInt (0) = (0 : Int32) := by decide +kernel
theorem q63_47 : qD 63 47 (.iastore) 1 48 := by decide +kernel
theorem q63_48 : qD 63 48 (.aload_n 0) 1 49 ∧ ((0 : Fin 4) : Nat) = 0 := by decide +kernel
theorem q63_49 : qG 63 49 9 52 7 0 236 2 := by decide +kernel
theorem q63_52 : qD 63 52 (.bipush 32) 2 54 ∧ (Int8.ofInt (32)).toInt32 = (32 : Int32) := by decide +kernel
theorem q63_54 : qD 63 54 (.dup2) 1 55 := by decide +kernel
theorem q63_55 : qD 63 55 (.iaload) 1 56 := by decide +kernel
theorem q63_56 : qD 63 56 (.iconst 1) 1 57 ∧ Int32.ofInt (1) = (1 : Int32) := by decide +kernel
theorem q63_57 : qD 63 57 (.iadd) 1 58 := by decide +kernel
theorem q63_58 : qD 63 58 (.iastore) 1 59 := by decide +kernel
theorem q63_59 : qD 63 59 (.return_) 1 60 ∧ mR 63 = none := by decide +kernel
theorem q80_0 : qD 80 0 (.aload_n 0) 1 1 ∧ ((0 : Fin 4) : Nat) = 0 := by decide +kernel
theorem q80_1 : qD 80 1 (.invokespecial 3) 3 4 ∧ inG 294 (.methodLink (mN 80).cls 3 Lib.objectInit) := by decide +kernel
theorem q80_4 : qD 80 4 (.aload_n 0) 1 5 ∧ ((0 : Fin 4) : Nat) = 0 := by decide +kernel
theorem q80_5 : qD 80 5 (.bipush 7) 2 7 ∧ (Int8.ofInt (7)).toInt32 = (7 : Int32) := by decide +kernel
theorem q80_7 : qD 80 7 (.newarray .int) 2 9 ∧ (100 = 100 ∨ 100 = 101 ∨ 100 = 102 ∨ 100 = 103) ∧ newarray.typeOf .int = kty 100 ∧ inG 165 (.arrayClass (kty 100)) := by decide +kernel
theorem q80_9 : qP 80 9 9 12 9 0 295 2 := by decide +kernel
theorem q80_12 : qD 80 12 (.aload_n 0) 1 13 ∧ ((0 : Fin 4) : Nat) = 0 := by decide +kernel
theorem q80_13 : qD 80 13 (.bipush 7) 2 15 ∧ (Int8.ofInt (7)).toInt32 = (7 : Int32) := by decide +kernel
theorem q80_15 : qD 80 15 (.newarray .int) 2 17 ∧ (100 = 100 ∨ 100 = 101 ∨ 100 = 102 ∨ 100 = 103) ∧ newarray.typeOf .int = kty 100 ∧ inG 165 (.arrayClass (kty 100)) := by decide +kernel
theorem q80_17 : qP 80 17 15 20 9 1 296 2 := by decide +kernel
theorem q80_20 : qD 80 20 (.return_) 1 21 ∧ mR 80 = none := by decide +kernel
theorem q81_0 : qD 81 0 (.aload_n 0) 1 1 ∧ ((0 : Fin 4) : Nat) = 0 := by decide +kernel
theorem q81_1 : qG 81 1 9 4 9 0 295 2 := by decide +kernel
theorem q81_4 : qD 81 4 (.iconst 0) 1 5 ∧ Int32.ofInt (0) = (0 : Int32) := by decide +kernel
theorem q81_5 : qD 81 5 (.invokestatic 18) 3 8 ∧ qI 81 18 322 686 := by decide +kernel
theorem q81_8 : qD 81 8 (.aload_n 0) 1 9 ∧ ((0 : Fin 4) : Nat) = 0 := by decide +kernel
theorem q81_9 : qG 81 9 15 12 9 1 296 2 := by decide +kernel
theorem q81_12 : qD 81 12 (.iconst 0) 1 13 ∧ Int32.ofInt (0) = (0 : Int32) := by decide +kernel
theorem q81_13 : qD 81 13 (.invokestatic 18) 3 16 ∧ qI 81 18 322 686 := by decide +kernel
theorem q81_16 : qD 81 16 (.aload_n 0) 1 17 ∧ ((0 : Fin 4) : Nat) = 0 := by decide +kernel
theorem q81_17 : qD 81 17 (.iconst 0) 1 18 ∧ Int32.ofInt (0) = (0 : Int32) := by decide +kernel
theorem q81_18 : qP 81 18 24 21 9 2 297 0 := by decide +kernel
theorem q81_21 : qD 81 21 (.return_) 1 22 ∧ mR 81 = none := by decide +kernel
theorem q82_0 : qD 82 0 (.iload_n 3) 1 1 ∧ ((3 : Fin 4) : Nat) = 3 := by decide +kernel
theorem q82_1 : qJ 82 1 (.ifCond .eq 18) 4 (18) 19 := by decide +kernel
theorem q82_4 : qD 82 4 (.aload_n 0) 1 5 ∧ ((0 : Fin 4) : Nat) = 0 := by decide +kernel
theorem q82_5 : qG 82 5 9 8 9 0 295 2 := by decide +kernel
theorem q82_8 : qD 82 8 (.iload_n 1) 1 9 ∧ ((1 : Fin 4) : Nat) = 1 := by decide +kernel
theorem q82_9 : qD 82 9 (.dup2) 1 10 := by decide +kernel
theorem q82_10 : qD 82 10 (.iaload) 1 11 := by decide +kernel
theorem q82_11 : qD 82 11 (.iconst 1) 1 12 ∧ Int32.ofInt (1) = (1 : Int32) := by decide +kernel
theorem q82_12 : qD 82 12 (.iload_n 2) 1 13 ∧ ((2 : Fin 4) : Nat) = 2 := by decide +kernel
theorem q82_13 : qD 82 13 (.ishl) 1 14 := by decide +kernel
theorem q82_14 : qD 82 14 (.ior) 1 15 := by decide +kernel
theorem q82_15 : qD 82 15 (.iastore) 1 16 := by decide +kernel
theorem q82_16 : qJ 82 16 (.goto 15) 19 (15) 31 := by decide +kernel
theorem q82_19 : qD 82 19 (.aload_n 0) 1 20 ∧ ((0 : Fin 4) : Nat) = 0 := by decide +kernel
theorem q82_20 : qG 82 20 15 23 9 1 296 2 := by decide +kernel
theorem q82_23 : qD 82 23 (.iload_n 1) 1 24 ∧ ((1 : Fin 4) : Nat) = 1 := by decide +kernel
theorem q82_24 : qD 82 24 (.dup2) 1 25 := by decide +kernel
theorem q82_25 : qD 82 25 (.iaload) 1 26 := by decide +kernel
theorem q82_26 : qD 82 26 (.iconst 1) 1 27 ∧ Int32.ofInt (1) = (1 : Int32) := by decide +kernel
theorem q82_27 : qD 82 27 (.iload_n 2) 1 28 ∧ ((2 : Fin 4) : Nat) = 2 := by decide +kernel
theorem q82_28 : qD 82 28 (.ishl) 1 29 := by decide +kernel
theorem q82_29 : qD 82 29 (.ior) 1 30 := by decide +kernel
theorem q82_30 : qD 82 30 (.iastore) 1 31 := by decide +kernel
theorem q82_31 : qD 82 31 (.aload_n 0) 1 32 ∧ ((0 : Fin 4) : Nat) = 0 := by decide +kernel
theorem q82_32 : qD 82 32 (.dup) 1 33 := by decide +kernel
theorem q82_33 : qG 82 33 24 36 9 2 297 0 := by decide +kernel
theorem q82_36 : qD 82 36 (.iconst 1) 1 37 ∧ Int32.ofInt (1) = (1 : Int32) := by decide +kernel
theorem q82_37 : qD 82 37 (.iadd) 1 38 := by decide +kernel
theorem q82_38 : qP 82 38 24 41 9 2 297 0 := by decide +kernel
theorem q82_41 : qD 82 41 (.return_) 1 42 ∧ mR 82 = none := by decide +kernel
theorem q83_0 : qD 83 0 (.aload_n 0) 1 1 ∧ ((0 : Fin 4) : Nat) = 0 := by decide +kernel
theorem q83_1 : qG 83 1 9 4 9 0 295 2 := by decide +kernel
theorem q83_4 : qD 83 4 (.iload_n 1) 1 5 ∧ ((1 : Fin 4) : Nat) = 1 := by decide +kernel
theorem q83_5 : qD 83 5 (.iaload) 1 6 := by decide +kernel
theorem q83_6 : qD 83 6 (.aload_n 0) 1 7 ∧ ((0 : Fin 4) : Nat) = 0 := by decide +kernel
theorem q83_7 : qG 83 7 15 10 9 1 296 2 := by decide +kernel
theorem q83_10 : qD 83 10 (.iload_n 1) 1 11 ∧ ((1 : Fin 4) : Nat) = 1 := by decide +kernel
theorem q83_11 : qD 83 11 (.iaload) 1 12 := by decide +kernel
theorem q83_12 : qD 83 12 (.ior) 1 13 := by decide +kernel
theorem q83_13 : qJ 83 13 (.ifCond .eq 7) 16 (7) 20 := by decide +kernel
theorem q83_16 : qD 83 16 (.iconst 1) 1 17 ∧ Int32.ofInt (1) = (1 : Int32) := by decide +kernel
theorem q83_17 : qJ 83 17 (.goto 4) 20 (4) 21 := by decide +kernel
theorem q83_20 : qD 83 20 (.iconst 0) 1 21 ∧ Int32.ofInt (0) = (0 : Int32) := by decide +kernel
theorem q83_21 : qD 83 21 (.ireturn) 1 22 ∧ mR 83 = some .boolean := by decide +kernel
theorem q84_0 : qD 84 0 (.aload_n 0) 1 1 ∧ ((0 : Fin 4) : Nat) = 0 := by decide +kernel
theorem q84_1 : qG 84 1 9 4 9 0 295 2 := by decide +kernel
theorem q84_4 : qD 84 4 (.iload_n 1) 1 5 ∧ ((1 : Fin 4) : Nat) = 1 := by decide +kernel
theorem q84_5 : qD 84 5 (.iaload) 1 6 := by decide +kernel
theorem q84_6 : qD 84 6 (.iload_n 2) 1 7 ∧ ((2 : Fin 4) : Nat) = 2 := by decide +kernel
theorem q84_7 : qD 84 7 (.iconst (-1)) 1 8 ∧ Int32.ofInt (-1) = (-1 : Int32) := by decide +kernel
theorem q84_8 : qD 84 8 (.ixor) 1 9 := by decide +kernel
theorem q84_9 : qD 84 9 (.iand) 1 10 := by decide +kernel
theorem q84_10 : qD 84 10 (.aload_n 0) 1 11 ∧ ((0 : Fin 4) : Nat) = 0 := by decide +kernel
theorem q84_11 : qG 84 11 15 14 9 1 296 2 := by decide +kernel
theorem q84_14 : qD 84 14 (.iload_n 1) 1 15 ∧ ((1 : Fin 4) : Nat) = 1 := by decide +kernel
theorem q84_15 : qD 84 15 (.iaload) 1 16 := by decide +kernel
theorem q84_16 : qD 84 16 (.iload_n 2) 1 17 ∧ ((2 : Fin 4) : Nat) = 2 := by decide +kernel
theorem q84_17 : qD 84 17 (.iand) 1 18 := by decide +kernel
theorem q84_18 : qD 84 18 (.ior) 1 19 := by decide +kernel
theorem q84_19 : qJ 84 19 (.ifCond .eq 7) 22 (7) 26 := by decide +kernel
theorem q84_22 : qD 84 22 (.iconst 1) 1 23 ∧ Int32.ofInt (1) = (1 : Int32) := by decide +kernel
theorem q84_23 : qJ 84 23 (.goto 4) 26 (4) 27 := by decide +kernel
theorem q84_26 : qD 84 26 (.iconst 0) 1 27 ∧ Int32.ofInt (0) = (0 : Int32) := by decide +kernel
theorem q84_27 : qD 84 27 (.ireturn) 1 28 ∧ mR 84 = some .boolean := by decide +kernel
theorem q85_0 : qD 85 0 (.iconst 0) 1 1 ∧ Int32.ofInt (0) = (0 : Int32) := by decide +kernel
theorem q85_1 : qD 85 1 (.istore_n 2) 1 2 ∧ ((2 : Fin 4) : Nat) = 2 ∧ 2 < mL 85 := by decide +kernel
theorem q85_2 : qD 85 2 (.iconst 0) 1 3 ∧ Int32.ofInt (0) = (0 : Int32) := by decide +kernel
theorem q85_3 : qD 85 3 (.istore_n 3) 1 4 ∧ ((3 : Fin 4) : Nat) = 3 ∧ 3 < mL 85 := by decide +kernel
theorem q85_4 : qD 85 4 (.iload_n 3) 1 5 ∧ ((3 : Fin 4) : Nat) = 3 := by decide +kernel
theorem q85_5 : qD 85 5 (.bipush 7) 2 7 ∧ (Int8.ofInt (7)).toInt32 = (7 : Int32) := by decide +kernel
theorem q85_7 : qJ 85 7 (.if_icmp .ge 28) 10 (28) 35 := by decide +kernel
theorem q85_10 : qD 85 10 (.iload_n 2) 1 11 ∧ ((2 : Fin 4) : Nat) = 2 := by decide +kernel
theorem q85_11 : qD 85 11 (.aload_n 0) 1 12 ∧ ((0 : Fin 4) : Nat) = 0 := by decide +kernel
theorem q85_12 : qD 85 12 (.iload_n 3) 1 13 ∧ ((3 : Fin 4) : Nat) = 3 := by decide +kernel
theorem q85_13 : qD 85 13 (.iload_n 1) 1 14 ∧ ((1 : Fin 4) : Nat) = 1 := by decide +kernel
theorem q85_14 : qD 85 14 (.invokevirtual 28) 3 17 ∧ qI 85 28 84 1130 := by decide +kernel
theorem q85_17 : qJ 85 17 (.ifCond .eq 9) 20 (9) 26 := by decide +kernel
theorem q85_20 : qD 85 20 (.iconst 1) 1 21 ∧ Int32.ofInt (1) = (1 : Int32) := by decide +kernel
theorem q85_21 : qD 85 21 (.iload_n 3) 1 22 ∧ ((3 : Fin 4) : Nat) = 3 := by decide +kernel
theorem q85_22 : qD 85 22 (.ishl) 1 23 := by decide +kernel
theorem q85_23 : qJ 85 23 (.goto 4) 26 (4) 27 := by decide +kernel
theorem q85_26 : qD 85 26 (.iconst 0) 1 27 ∧ Int32.ofInt (0) = (0 : Int32) := by decide +kernel
theorem q85_27 : qD 85 27 (.ior) 1 28 := by decide +kernel
theorem q85_28 : qD 85 28 (.istore_n 2) 1 29 ∧ ((2 : Fin 4) : Nat) = 2 ∧ 2 < mL 85 := by decide +kernel
theorem q85_29 : qD 85 29 (.iinc 3 1) 3 32 ∧ 3 < mL 85 ∧ Int32.ofInt (1) = (1 : Int32) := by decide +kernel
theorem q85_32 : qJ 85 32 (.goto (-28)) 35 (-28) 4 := by decide +kernel
theorem q85_35 : qD 85 35 (.iload_n 2) 1 36 ∧ ((2 : Fin 4) : Nat) = 2 := by decide +kernel
theorem q85_36 : qD 85 36 (.ireturn) 1 37 ∧ mR 85 = some .int := by decide +kernel
end
section
/-! THE TAPE of the class: contracts -/
theorem vu_s {α : Type} (f : Nat → α) (k : Nat) (v : α) : va_up f k v k = v := if_pos rfl
theorem vu_o {α : Type} (f : Nat → α) {k j : Nat} (v : α) (h : j ≠ k) : va_up f k v j = f j := if_neg h
theorem vu_uu {α : Type} (f : Nat → α) (k : Nat) (v w : α) : va_up (va_up f k v) k w = va_up f k w := by
  funext j; by_cases h : j = k <;> simp [va_up, h]
theorem vu_self {α : Type} (f : Nat → α) (k : Nat) {v : α} (h : f k = v) : va_up f k v = f := by
  funext j; by_cases hj : j = k
  · subst hj; simp [va_up, h]
  · simp [va_up, hj]
theorem vu_comm {α : Type} (f : Nat → α) {j k : Nat} (v w : α) (h : j ≠ k) : va_up (va_up f j v) k w = va_up (va_up f k w) j v := by
  funext i; by_cases h1 : i = j <;> by_cases h2 : i = k <;> simp [va_up, h1, h2]
  · omega
  · intro z; omega
  · intro z; omega
theorem up2_uu {α : Type} (f : Nat → Nat → α) (a i : Nat) (v w : α) : up2 (up2 f a i v) a i w = up2 f a i w := by
  funext b; by_cases h : b = a <;> simp [up2, h, vu_uu]
theorem up2_self {α : Type} (f : Nat → Nat → α) (a i : Nat) {v : α} (h : f a i = v) : up2 f a i v = f := by
  funext b; by_cases hb : b = a
  · subst hb; simp [up2, vu_self _ _ h]
  · simp [up2, hb]
theorem up2_comm {α : Type} (f : Nat → Nat → α) {a b i j : Nat} (v w : α) (h : a ≠ b ∨ i ≠ j) : up2 (up2 f a i v) b j w = up2 (up2 f b j w) a i v := by
  funext c
  by_cases h1 : c = a
  · subst h1
    by_cases h2 : c = b
    · subst h2
      have : i ≠ j := h.resolve_left (fun z => z rfl)
      simp only [up2, if_pos]
      exact vu_comm _ _ _ this
    · simp only [up2, if_pos, if_neg h2]
  · by_cases h2 : c = b
    · subst h2
      simp only [up2, if_pos, if_neg h1]
    · simp only [up2, if_neg h1, if_neg h2]
theorem hpS (hi : Nat → Nat → Int32) (hl : Nat → Nat → Int64) (f dr t a i : Nat) (x : Int32) : stI (HP hi hl f dr t) a i x = HP (up2 hi a i x) hl f dr t := rfl
/-- the tape with a reader at p, and what it found wrong -/
def tpS (hi : Nat → Nat → Int32) (p : Nat) (w : Int32) : Nat → Nat → Int32 := up2 (up2 hi 1 2 (nI p)) 1 3 w
theorem tpS_p (hi : Nat → Nat → Int32) (p p' : Nat) (w : Int32) : up2 (tpS hi p w) 1 2 (nI p') = tpS hi p' w := by
  unfold tpS
  rw [up2_comm _ _ _ (Or.inr (by decide)), up2_uu]
theorem tpS_w (hi : Nat → Nat → Int32) (p : Nat) (w w' : Int32) : up2 (tpS hi p w) 1 3 w' = tpS hi p w' := by
  unfold tpS
  rw [up2_uu]
theorem tpS_o (hi : Nat → Nat → Int32) (p : Nat) (w : Int32) {a : Nat} (h : a ≠ 1) : tpS hi p w a = hi a := by
  unfold tpS
  rw [up2_o _ _ _ h, up2_o _ _ _ h]
def tpHere (b : Nat → Int32) (L p : Nat) (w : Int32) : Int32 := if w = -1 then (if p < L then b p else -1) else -1
def tpSk (b : Nat → Int32) (L : Nat) : Nat → Nat → Nat
  | 0, p => p
  | n + 1, p => if p < L ∧ b p = 32 then tpSk b L n (p + 1) else p
def tpSkip (b : Nat → Int32) (L p : Nat) : Nat := tpSk b L (L - p) p
theorem tpSk_le {b : Nat → Int32} {L : Nat} : ∀ (n p : Nat), p ≤ L → p ≤ tpSk b L n p ∧ tpSk b L n p ≤ L
  | 0, p, h => ⟨Nat.le_refl _, h⟩
  | n + 1, p, h => by
    unfold tpSk
    split
    · rename_i hc
      have := tpSk_le (b := b) (L := L) n (p + 1) (by omega)
      omega
    · omega
theorem tpSkip_le {b : Nat → Int32} {L p : Nat} (h : p ≤ L) : p ≤ tpSkip b L p ∧ tpSkip b L p ≤ L := tpSk_le _ _ h
section TAPE
variable {G : ph_G} {d f dr t L p : Nat} {hi : Nat → Nat → Int32} {hl : Nat → Nat → Int64} {w : Int32} {Q : Option Value → ph_H → Prop}
theorem c_isDigit {x : Int32} {h : ph_H} (hQ : Q (some (.int (if 48 ≤ x ∧ x ≤ 57 then 1 else 0))) h) : Ct G (0, 0) d 79 [.int x] h Q := by
  refine Ct_of (ls := [_]) m_79.1.2.2.1 (Nat.le_of_ble_eq_true rfl) rfl ?_
  refine wq_iload_n q79_0 rfl ?_
  refine wq_bipush q79_1 ?_
  refine wq_icmp_lt q79_3 (fun c3 => ?_) (fun c3 => ?_)
  · refine wq_iconst q79_16 ?_
    refine rI q79_17 rfl ?_
    rw [if_neg (fun z => absurd z.1 (Int32.not_le.mpr c3))] at hQ
    exact hQ
  · refine wq_iload_n q79_6 rfl ?_
    refine wq_bipush q79_7 ?_
    refine wq_icmp_gt q79_9 (fun c9 => ?_) (fun c9 => ?_)
    · refine wq_iconst q79_16 ?_
      refine rI q79_17 rfl ?_
      rw [if_neg (fun z => absurd z.2 (Int32.not_le.mpr c9))] at hQ
      exact hQ
    · refine wq_iconst q79_12 ?_
      refine wq_goto q79_13 ?_
      refine rI q79_17 rfl ?_
      rw [if_pos ⟨Int32.not_lt.mp c3, Int32.not_lt.mp c9⟩] at hQ
      exact hQ
theorem c_here (hL : hi 1 1 = nI L) (hLm : L ≤ 240) (hp : p ≤ L) (hQ : Q (some (.int (tpHere (hi 2) L p w))) (HP (tpS hi p w) hl f dr t)) : Ct G (0, 0) d 68 [.ref 1] (HP (tpS hi p w) hl f dr t) Q := by
  refine Ct_of (ls := [_]) m_68.1.2.2.1 (Nat.le_of_ble_eq_true rfl) rfl ?_
  have e1 : hI (HP (tpS hi p w) hl f dr t) 1 1 = nI L := hL
  have e2 : hI (HP (tpS hi p w) hl f dr t) 1 2 = nI p := rfl
  have e3 : hI (HP (tpS hi p w) hl f dr t) 1 3 = w := rfl
  have e4 : hI (HP (tpS hi p w) hl f dr t) 2 p = hi 2 p := rfl
  refine wq_aload_n q68_0 rfl ?_
  refine wq_getI q68_1 rfl rfl ?_
  refine wq_iconst q68_4 ?_
  refine wq_icmp_ne q68_5 (fun c5 => ?_) (fun c5 => ?_)
  · refine wq_iconst q68_31 ?_
    refine rI q68_32 rfl ?_
    rw [e3] at c5
    rw [tpHere, if_neg c5] at hQ
    exact hQ
  · refine wq_aload_n q68_8 rfl ?_
    refine wq_getI q68_9 rfl rfl ?_
    refine wq_aload_n q68_12 rfl ?_
    refine wq_getI q68_13 rfl rfl ?_
    refine wq_icmp_ge q68_16 (fun c16 => ?_) (fun c16 => ?_)
    · refine wq_iconst q68_31 ?_
      refine rI q68_32 rfl ?_
      rw [e3] at c5
      rw [e1, e2, nI_leI (by omega) (by omega)] at c16
      rw [tpHere, if_pos c5, if_neg (by omega)] at hQ
      exact hQ
    · rw [e1, e2, nI_leI (by omega) (by omega)] at c16
      refine wq_aload_n q68_19 rfl ?_
      refine wq_getR q68_20 rfl rfl rfl ?_
      refine wq_aload_n q68_23 rfl ?_
      refine wq_getI q68_24 rfl rfl ?_
      refine aI q68_27 rfl (e2) (by omega) (by first | decide | omega) ?_
      refine wq_goto q68_28 ?_
      refine rI q68_32 rfl ?_
      rw [e3] at c5
      rw [tpHere, if_pos c5, if_pos (by omega)] at hQ
      exact hQ
theorem c_next_loop (hL : hi 1 1 = nI L) (hLm : L ≤ 240) : ∀ (n p : Nat), p ≤ L → L - p ≤ n → Q (some (.int (tpHere (hi 2) L (tpSk (hi 2) L n p) w))) (HP (tpS hi (tpSk (hi 2) L n p) w) hl f dr t) → wq G (0, 0) (d + 1) 69 0 [some (.ref 1)] [] (0, 0) (HP (tpS hi p w) hl f dr t) Q := by
  intro n
  induction n with
  | zero =>
    intro p hp hn hQ
    have e1 : hI (HP (tpS hi p w) hl f dr t) 1 1 = nI L := hL
    have e2 : hI (HP (tpS hi p w) hl f dr t) 1 2 = nI p := rfl
    refine wq_aload_n q69_0 rfl ?_
    refine wq_getI q69_1 rfl rfl ?_
    refine wq_aload_n q69_4 rfl ?_
    refine wq_getI q69_5 rfl rfl ?_
    refine wq_icmp_ge q69_8 (fun c8 => ?_) (fun c8 => ?_)
    · refine wq_aload_n q69_38 rfl ?_
      refine cV (As := []) q69_39 m_68 rfl rfl rfl ⟨by decide, rfl⟩ rfl (c_here hL hLm hp ?_)
      refine rI q69_42 rfl ?_
      exact hQ
    · rw [e1, e2, nI_leI (by omega) (by omega)] at c8
      omega
  | succ n ih =>
    intro p hp hn hQ
    have e1 : hI (HP (tpS hi p w) hl f dr t) 1 1 = nI L := hL
    have e2 : hI (HP (tpS hi p w) hl f dr t) 1 2 = nI p := rfl
    have e4 : hI (HP (tpS hi p w) hl f dr t) 2 p = hi 2 p := rfl
    refine wq_aload_n q69_0 rfl ?_
    refine wq_getI q69_1 rfl rfl ?_
    refine wq_aload_n q69_4 rfl ?_
    refine wq_getI q69_5 rfl rfl ?_
    refine wq_icmp_ge q69_8 (fun c8 => ?_) (fun c8 => ?_)
    · rw [e1, e2, nI_leI (by omega) (by omega)] at c8
      have e : tpSk (hi 2) L (n + 1) p = p := by rw [tpSk, if_neg (by omega)]
      rw [e] at hQ
      refine wq_aload_n q69_38 rfl ?_
      refine cV (As := []) q69_39 m_68 rfl rfl rfl ⟨by decide, rfl⟩ rfl (c_here hL hLm hp ?_)
      refine rI q69_42 rfl ?_
      exact hQ
    · rw [e1, e2, nI_leI (by omega) (by omega)] at c8
      refine wq_aload_n q69_11 rfl ?_
      refine wq_getR q69_12 rfl rfl rfl ?_
      refine wq_aload_n q69_15 rfl ?_
      refine wq_getI q69_16 rfl rfl ?_
      refine aI q69_19 rfl (e2) (by omega) (by first | decide | omega) ?_
      refine wq_bipush q69_20 ?_
      refine wq_icmp_ne q69_22 (fun c22 => ?_) (fun c22 => ?_)
      · have e : tpSk (hi 2) L (n + 1) p = p := by rw [tpSk, if_neg (fun z => c22 z.2)]
        rw [e] at hQ
        refine wq_aload_n q69_38 rfl ?_
        refine cV (As := []) q69_39 m_68 rfl rfl rfl ⟨by decide, rfl⟩ rfl (c_here hL hLm hp ?_)
        refine rI q69_42 rfl ?_
        exact hQ
      · have e : tpSk (hi 2) L (n + 1) p = tpSk (hi 2) L n (p + 1) := by rw [tpSk, if_pos ⟨by omega, c22⟩]
        rw [e] at hQ
        refine wq_aload_n q69_25 rfl ?_
        refine wq_dup q69_26 rfl ?_
        refine wq_getI q69_27 rfl rfl ?_
        refine wq_iconst q69_30 ?_
        refine wq_iadd q69_31 ?_
        refine wq_putI q69_32 rfl rfl rfl rfl ?_
        refine wq_goto q69_35 ?_
        rw [e2, nI_1, hpS, tpS_p]
        exact ih (p + 1) (by omega) (by omega) hQ
theorem c_next (hL : hi 1 1 = nI L) (hLm : L ≤ 240) (hp : p ≤ L) (hQ : Q (some (.int (tpHere (hi 2) L (tpSkip (hi 2) L p) w))) (HP (tpS hi (tpSkip (hi 2) L p) w) hl f dr t)) : Ct G (0, 0) (d + 1) 69 [.ref 1] (HP (tpS hi p w) hl f dr t) Q := by
  refine Ct_of (ls := [_]) m_69.1.2.2.1 (Nat.le_of_ble_eq_true rfl) rfl ?_
  exact c_next_loop hL hLm (L - p) p hp (Nat.le_refl _) hQ
def tpPass (L p : Nat) : Nat := if p < L then p + 1 else p
theorem c_pass (hL : hi 1 1 = nI L) (hLm : L ≤ 240) (hp : p ≤ L) (hQ : Q none (HP (tpS hi (tpPass L p) w) hl f dr t)) : Ct G (0, 0) d 70 [.ref 1] (HP (tpS hi p w) hl f dr t) Q := by
  refine Ct_of (ls := [_]) m_70.1.2.2.1 (Nat.le_of_ble_eq_true rfl) rfl ?_
  have e1 : hI (HP (tpS hi p w) hl f dr t) 1 1 = nI L := hL
  have e2 : hI (HP (tpS hi p w) hl f dr t) 1 2 = nI p := rfl
  refine wq_aload_n q70_0 rfl ?_
  refine wq_getI q70_1 rfl rfl ?_
  refine wq_aload_n q70_4 rfl ?_
  refine wq_getI q70_5 rfl rfl ?_
  refine wq_icmp_ge q70_8 (fun c8 => ?_) (fun c8 => ?_)
  · rw [e1, e2, nI_leI (by omega) (by omega)] at c8
    rw [tpPass, if_neg (by omega)] at hQ
    refine rV q70_21 ?_
    exact hQ
  · rw [e1, e2, nI_leI (by omega) (by omega)] at c8
    rw [tpPass, if_pos (by omega)] at hQ
    refine wq_aload_n q70_11 rfl ?_
    refine wq_dup q70_12 rfl ?_
    refine wq_getI q70_13 rfl rfl ?_
    refine wq_iconst q70_16 ?_
    refine wq_iadd q70_17 ?_
    refine wq_putI q70_18 rfl rfl rfl rfl ?_
    refine rV q70_21 ?_
    rw [e2, nI_1, hpS, tpS_p]
    exact hQ
theorem c_failAt {x : Int32} (hQ : Q none (HP (tpS hi p (if w = -1 then x else w)) hl f dr t)) : Ct G (0, 0) d 75 [.ref 1, .int x] (HP (tpS hi p w) hl f dr t) Q := by
  refine Ct_of (ls := [_, _]) m_75.1.2.2.1 (Nat.le_of_ble_eq_true rfl) rfl ?_
  have e3 : hI (HP (tpS hi p w) hl f dr t) 1 3 = w := rfl
  refine wq_aload_n q75_0 rfl ?_
  refine wq_getI q75_1 rfl rfl ?_
  refine wq_iconst q75_4 ?_
  refine wq_icmp_ne q75_5 (fun c5 => ?_) (fun c5 => ?_)
  · refine rV q75_13 ?_
    rw [e3] at c5
    rw [if_neg c5] at hQ
    exact hQ
  · refine wq_aload_n q75_8 rfl ?_
    refine wq_iload_n q75_9 rfl ?_
    refine wq_putI q75_10 rfl rfl rfl rfl ?_
    refine rV q75_13 ?_
    rw [e3] at c5
    rw [if_pos c5] at hQ
    rw [hpS, tpS_w]
    exact hQ
theorem c_takes {x : Int32} (hL : hi 1 1 = nI L) (hLm : L ≤ 240) (hp : p ≤ L)
    (hQ : Q (some (.int (if tpHere (hi 2) L (tpSkip (hi 2) L p) w = x then 1 else 0))) (HP (tpS hi (if tpHere (hi 2) L (tpSkip (hi 2) L p) w = x then tpPass L (tpSkip (hi 2) L p) else tpSkip (hi 2) L p) w) hl f dr t)) : Ct G (0, 0) (d + 2) 71 [.ref 1, .int x] (HP (tpS hi p w) hl f dr t) Q := by
  refine Ct_of (ls := [_, _]) m_71.1.2.2.1 (Nat.le_of_ble_eq_true rfl) rfl ?_
  refine wq_aload_n q71_0 rfl ?_
  refine cV (As := []) q71_1 m_69 rfl rfl rfl ⟨by decide, rfl⟩ rfl (c_next hL hLm hp ?_)
  refine wq_iload_n q71_4 rfl ?_
  refine wq_icmp_eq q71_5 (fun c5 => ?_) (fun c5 => ?_)
  · rw [if_pos c5, if_pos c5] at hQ
    refine wq_aload_n q71_10 rfl ?_
    refine cV (As := []) q71_11 m_70 rfl rfl rfl ⟨by decide, rfl⟩ rfl (c_pass hL hLm (tpSkip_le hp).2 ?_)
    refine wq_iconst q71_14 ?_
    refine rI q71_15 rfl ?_
    exact hQ
  · rw [if_neg c5, if_neg c5] at hQ
    refine wq_iconst q71_8 ?_
    refine rI q71_9 rfl ?_
    exact hQ
/-- where a fault is noted: the first one stays -/
def tpF (w : Int32) (q : Nat) : Int32 := if w = -1 then nI q else w
theorem c_expect {x : Int32} (hL : hi 1 1 = nI L) (hLm : L ≤ 240) (hp : p ≤ L)
    (hQ : ∀ p' w', (p', w') = (if tpHere (hi 2) L (tpSkip (hi 2) L p) w = x then (tpPass L (tpSkip (hi 2) L p), w) else (tpSkip (hi 2) L p, tpF w (tpSkip (hi 2) L p))) → Q none (HP (tpS hi p' w') hl f dr t)) : Ct G (0, 0) (d + 3) 72 [.ref 1, .int x] (HP (tpS hi p w) hl f dr t) Q := by
  refine Ct_of (ls := [_, _]) m_72.1.2.2.1 (Nat.le_of_ble_eq_true rfl) rfl ?_
  refine wq_aload_n q72_0 rfl ?_
  refine wq_iload_n q72_1 rfl ?_
  refine cV (As := [_]) q72_2 m_71 rfl rfl rfl ⟨by decide, rfl⟩ rfl (c_takes hL hLm hp ?_)
  refine wq_if_ne q72_5 (fun c5 => ?_) (fun c5 => ?_)
  · by_cases hc : tpHere (hi 2) L (tpSkip (hi 2) L p) w = x
    · rw [if_pos hc]
      refine rV q72_16 ?_
      exact hQ _ _ (by rw [if_pos hc])
    · rw [if_neg hc] at c5
      exact absurd rfl c5
  · by_cases hc : tpHere (hi 2) L (tpSkip (hi 2) L p) w = x
    · rw [if_pos hc] at c5
      exact absurd c5 (by decide)
    · rw [if_neg hc]
      refine wq_aload_n q72_8 rfl ?_
      refine wq_aload_n q72_9 rfl ?_
      refine wq_getI q72_10 rfl rfl ?_
      refine cV (As := [_]) q72_13 m_75 rfl rfl rfl ⟨by decide, rfl⟩ rfl (c_failAt ?_)
      refine rV q72_16 ?_
      exact hQ _ _ (by rw [if_neg hc]; rfl)
theorem c_expectEnd (hL : hi 1 1 = nI L) (hLm : L ≤ 240) (hp : p ≤ L)
    (hQ : Q none (HP (tpS hi (tpSkip (hi 2) L p) (if tpHere (hi 2) L (tpSkip (hi 2) L p) w = -1 then w else tpF w (tpSkip (hi 2) L p))) hl f dr t)) : Ct G (0, 0) (d + 2) 73 [.ref 1] (HP (tpS hi p w) hl f dr t) Q := by
  refine Ct_of (ls := [_]) m_73.1.2.2.1 (Nat.le_of_ble_eq_true rfl) rfl ?_
  refine wq_aload_n q73_0 rfl ?_
  refine cV (As := []) q73_1 m_69 rfl rfl rfl ⟨by decide, rfl⟩ rfl (c_next hL hLm hp ?_)
  refine wq_iconst q73_4 ?_
  refine wq_icmp_eq q73_5 (fun c5 => ?_) (fun c5 => ?_)
  · rw [if_pos c5] at hQ
    refine rV q73_16 ?_
    exact hQ
  · rw [if_neg c5] at hQ
    refine wq_aload_n q73_8 rfl ?_
    refine wq_aload_n q73_9 rfl ?_
    refine wq_getI q73_10 rfl rfl ?_
    refine cV (As := [_]) q73_13 m_75 rfl rfl rfl ⟨by decide, rfl⟩ rfl (c_failAt ?_)
    refine rV q73_16 ?_
    exact hQ
theorem c_fail (hL : hi 1 1 = nI L) (hLm : L ≤ 240) (hp : p ≤ L) (hQ : Q none (HP (tpS hi (tpSkip (hi 2) L p) (tpF w (tpSkip (hi 2) L p))) hl f dr t)) : Ct G (0, 0) (d + 2) 74 [.ref 1] (HP (tpS hi p w) hl f dr t) Q := by
  refine Ct_of (ls := [_]) m_74.1.2.2.1 (Nat.le_of_ble_eq_true rfl) rfl ?_
  refine wq_aload_n q74_0 rfl ?_
  refine cV (As := []) q74_1 m_69 rfl rfl rfl ⟨by decide, rfl⟩ rfl (c_next hL hLm hp ?_)
  refine wq_pop q74_4 rfl ?_
  refine wq_aload_n q74_5 rfl ?_
  refine wq_aload_n q74_6 rfl ?_
  refine wq_getI q74_7 rfl rfl ?_
  refine cV (As := [_]) q74_10 m_75 rfl rfl rfl ⟨by decide, rfl⟩ rfl (c_failAt ?_)
  refine rV q74_13 ?_
  exact hQ
def isDg (x : Int32) : Bool := decide (48 ≤ x ∧ x ≤ 57)
theorem c_isDg {x : Int32} {h : ph_H} (hQ : Q (some (.int (if isDg x = true then 1 else 0))) h) : Ct G (0, 0) d 79 [.int x] h Q := by
  refine c_isDigit ?_
  simp only [isDg, decide_eq_true_eq] at hQ
  exact hQ
theorem c_digit (hL : hi 1 1 = nI L) (hLm : L ≤ 240) (hp : p ≤ L)
    (hQ : ∀ r p' w', (r, p', w') = (if isDg (tpHere (hi 2) L (tpSkip (hi 2) L p) w) = true then (tpHere (hi 2) L (tpSkip (hi 2) L p) w - 48, tpPass L (tpSkip (hi 2) L p), w) else ((0 : Int32), tpSkip (hi 2) L p, tpF w (tpSkip (hi 2) L p))) → Q (some (.int r)) (HP (tpS hi p' w') hl f dr t)) : Ct G (0, 0) (d + 2) 77 [.ref 1] (HP (tpS hi p w) hl f dr t) Q := by
  refine Ct_of (ls := [_, _]) m_77.1.2.2.1 (Nat.le_of_ble_eq_true rfl) rfl ?_
  refine wq_aload_n q77_0 rfl ?_
  refine cV (As := []) q77_1 m_69 rfl rfl rfl ⟨by decide, rfl⟩ rfl (c_next hL hLm hp ?_)
  refine wq_istore_n (ls' := [_, _]) q77_4 rfl ?_
  refine wq_iload_n q77_5 rfl ?_
  refine cS' (As := [_]) q77_6 m_79 rfl rfl rfl (c_isDg ?_)
  refine wq_if_ne q77_9 (fun c9 => ?_) (fun c9 => ?_)
  · by_cases hc : isDg (tpHere (hi 2) L (tpSkip (hi 2) L p) w) = true
    · refine wq_aload_n q77_22 rfl ?_
      refine cV (As := []) q77_23 m_70 rfl rfl rfl ⟨by decide, rfl⟩ rfl (c_pass hL hLm (tpSkip_le hp).2 ?_)
      refine wq_iload_n q77_26 rfl ?_
      refine wq_bipush q77_27 ?_
      refine wq_isub q77_29 ?_
      refine rI q77_30 rfl ?_
      exact hQ _ _ _ (by rw [if_pos hc])
    · rw [if_neg hc] at c9
      exact absurd rfl c9
  · by_cases hc : isDg (tpHere (hi 2) L (tpSkip (hi 2) L p) w) = true
    · rw [if_pos hc] at c9
      exact absurd c9 (by decide)
    · refine wq_aload_n q77_12 rfl ?_
      refine wq_aload_n q77_13 rfl ?_
      refine wq_getI q77_14 rfl rfl ?_
      refine cV (As := [_]) q77_17 m_75 rfl rfl rfl ⟨by decide, rfl⟩ rfl (c_failAt ?_)
      refine wq_iconst q77_20 ?_
      refine rI q77_21 rfl ?_
      exact hQ _ _ _ (by rw [if_neg hc]; rfl)
/-- the digits of a number: value, how many, where -/
def tpDg (b : Nat → Int32) (L : Nat) (w : Int32) : Nat → Int32 → Nat → Nat → Int32 × Nat × Nat
  | 0, v, r, p => (v, r, p)
  | n + 1, v, r, p => if isDg (tpHere b L p w) = true then tpDg b L w n (10 * v + tpHere b L p w - 48) (r + 1) (tpPass L p) else (v, r, p)
theorem tpPass_le {L p : Nat} (h : p ≤ L) : tpPass L p ≤ L := by unfold tpPass; split <;> omega
theorem tpDg_le {b : Nat → Int32} {L : Nat} {w : Int32} : ∀ (n : Nat) (v : Int32) (r p : Nat), p ≤ L → (tpDg b L w n v r p).2.2 ≤ L ∧ (tpDg b L w n v r p).2.1 ≤ r + n
  | 0, v, r, p, h => ⟨h, Nat.le_refl _⟩
  | n + 1, v, r, p, h => by
    unfold tpDg
    split
    · have := tpDg_le (b := b) (L := L) (w := w) n (10 * v + tpHere b L p w - 48) (r + 1) (tpPass L p) (tpPass_le h)
      omega
    · exact ⟨h, Nat.le_add_right _ _⟩
/-- the end of a number -/
def tpNe (b : Nat → Int32) (L : Nat) (w : Int32) (lo hi' : Int32) (x : Int32 × Nat × Nat) : Int32 × Nat × Int32 :=
  (x.1, x.2.2, if x.2.1 = 0 ∨ isDg (tpHere b L x.2.2 w) = true then tpF w x.2.2 else if x.1 < lo ∨ hi' < x.1 then (if w = -1 then nI x.2.2 - 1 else w) else w)
theorem c_number_end {b : Nat → Int32} {lo hi' v x1 : Int32} {r n : Nat} (hb : hi 2 = b) (hr : r ≤ 10) (hp : p ≤ L)
    (hQ : Q (some (.int v)) (HP (tpS hi p (tpNe b L w lo hi' (v, r, p)).2.2) hl f dr t)) : wq G (0, 0) (d + 1) 78 55 [some (.ref 1), some (.int x1), some (.int lo), some (.int hi'), some (.int (tpHere b L p w)), some (.int v), some (.int (nI r))] [] (0, 0) (HP (tpS hi p w) hl f dr t) Q := by
  sorry
end TAPE
end
section
/-! SCENES, ACTS, DIARIES, WITNESSES: contracts over any heap that has such a cell -/
theorem stI_C (h : ph_H) (a i : Nat) (x : Int32) : stI h a i x = stC h a (va_up (hI h a) i x) := rfl
theorem hI_C (h : ph_H) (a : Nat) (f : Nat → Int32) : hI (stC h a f) a = f := by simp [stC, hI]
theorem hI_Co (h : ph_H) {a b : Nat} (f : Nat → Int32) (hb : b ≠ a) : hI (stC h a f) b = hI h b := by simp [stC, hI, hb]
theorem stC_C (h : ph_H) (a : Nat) (f g : Nat → Int32) : stC (stC h a f) a g = stC h a g := by
  unfold stC
  congr 3
  funext b
  by_cases hb : b = a <;> simp [hb]
theorem stC_self (h : ph_H) (a : Nat) {f : Nat → Int32} (hf : f = hI h a) : stC h a f = h := by
  subst hf
  obtain ⟨b, s, i, l, r⟩ := h
  unfold stC
  congr 3
  funext c
  by_cases hc : c = a <;> simp [hc]
/-- a scene at a, its row at r -/
def Scn (h : ph_H) (a r : Nat) : Prop := (hS h)[a]? = some (7, 1) ∧ hR h a 0 = some r ∧ (hS h)[r]? = some (100, 33) ∧ h.1 = false
theorem Scn.st {h : ph_H} {a r : Nat} (hs : Scn h a r) (b : Nat) (f : Nat → Int32) : Scn (stC h b f) a r := hs
section SCENE
variable {G : ph_G} {d a r n : Nat} {h : ph_H} {Q : Option Value → ph_H → Prop}
theorem c_fill_loop {v : Int32} (s1 : (hS h)[a]? = some (100, n)) (hn : n < 2 ^ 31) (s4 : h.1 = false) : ∀ (m j : Nat), j + m = n → Q none (stC h a (fun i => if i < n then v else hI h a i)) →
    wq G (0, 0) d 322 5 [some (.ref a), some (.int v), some (.int (nI j)), some (.int (nI n))] [] (0, 0) (stC h a (fun i => if i < j then v else hI h a i)) Q := by
  intro m
  induction m with
  | zero =>
    intro j hj hQ
    refine wq_iload_n q322_5 rfl ?_
    refine wq_iload_n q322_6 rfl ?_
    refine wq_icmp_ge q322_7 (fun c7 => ?_) (fun c7 => ?_)
    · refine rV q322_20 ?_
      have : j = n := by omega
      subst this
      exact hQ
    · rw [nI_leI (by omega) (by omega)] at c7
      omega
  | succ m ih =>
    intro j hj hQ
    refine wq_iload_n q322_5 rfl ?_
    refine wq_iload_n q322_6 rfl ?_
    refine wq_icmp_ge q322_7 (fun c7 => ?_) (fun c7 => ?_)
    · rw [nI_leI (by omega) (by omega)] at c7
      omega
    · refine wq_aload_n q322_10 rfl ?_
      refine wq_iload_n q322_11 rfl ?_
      refine wq_iload_n q322_12 rfl ?_
      refine sI q322_13 (by first | exact s1 | exact s4 | rfl) (rfl) (by omega) (by first | decide | omega) (by first | exact s1 | exact s4 | rfl) ?_
      refine wq_iinc (ls' := [_, _, _, _]) q322_14 rfl rfl ?_
      refine wq_goto q322_17 ?_
      rw [nI_1, stI_C, hI_C, stC_C]
      have e : va_up (fun i => if i < j then v else hI h a i) j v = fun i => if i < j + 1 then v else hI h a i := by
        funext i
        by_cases h1 : i = j
        · subst h1; simp [va_up]
        · simp only [va_up, if_neg h1]
          by_cases h2 : i < j
          · rw [if_pos h2, if_pos (by omega)]
          · rw [if_neg h2, if_neg (by omega)]
      rw [e]
      exact ih (j + 1) (by omega) hQ
theorem c_fill {v : Int32} (s1 : (hS h)[a]? = some (100, n)) (hn : n < 2 ^ 31) (s4 : h.1 = false) (hQ : Q none (stC h a (fun i => if i < n then v else hI h a i))) : Ct G (0, 0) d 322 [.ref a, .int v] h Q := by
  refine Ct_of (ls := [_, _, _, _]) m_322.1.2.2.1 (Nat.le_of_ble_eq_true rfl) rfl ?_
  refine wq_iconst q322_0 ?_
  refine wq_istore_n (ls' := [_, _, _, _]) q322_1 rfl ?_
  refine wq_aload_n q322_2 rfl ?_
  refine wq_alen q322_3 (by first | exact s1 | exact s4 | rfl) (by omega) ?_
  refine wq_istore_n (ls' := [_, _, _, _]) q322_4 rfl ?_
  have := c_fill_loop (G := G) (d := d) (v := v) s1 hn s4 n 0 (by omega) hQ
  rw [stC_self h a (f := fun i => if i < 0 then v else hI h a i) (by funext i; simp)] at this
  exact this
/-- Integer.bitCount -/
def bc1 (x : Int32) : Int32 := x - ((x.toUInt32 >>> ((1 : Int32).toUInt32 &&& Int32.toUInt32 31)).toInt32 &&& 1431655765)
def bc2 (x : Int32) : Int32 := (x &&& 858993459) + ((x.toUInt32 >>> ((2 : Int32).toUInt32 &&& Int32.toUInt32 31)).toInt32 &&& 858993459)
def bc3 (x : Int32) : Int32 := (x + (x.toUInt32 >>> ((4 : Int32).toUInt32 &&& Int32.toUInt32 31)).toInt32) &&& 252645135
def bc4 (x : Int32) : Int32 := x + (x.toUInt32 >>> ((8 : Int32).toUInt32 &&& Int32.toUInt32 31)).toInt32
def bc5 (x : Int32) : Int32 := x + (x.toUInt32 >>> ((16 : Int32).toUInt32 &&& Int32.toUInt32 31)).toInt32
def bc (x : Int32) : Int32 := bc5 (bc4 (bc3 (bc2 (bc1 x)))) &&& 63
theorem c_bitCount {x : Int32} (hQ : Q (some (.int (bc x))) h) : Ct G (0, 0) d 295 [.int x] h Q := by
  refine Ct_of (ls := [_]) m_295.1.2.2.1 (Nat.le_of_ble_eq_true rfl) rfl ?_
  refine wq_iload_n q295_0 rfl ?_
  refine wq_iload_n q295_1 rfl ?_
  refine wq_iconst q295_2 ?_
  refine wq_iushr q295_3 ?_
  refine wq_ldc_w q295_4 ?_
  refine wq_iand q295_7 ?_
  refine wq_isub q295_8 ?_
  refine wq_istore_n (ls' := [_]) q295_9 rfl ?_
  refine wq_iload_n q295_10 rfl ?_
  refine wq_ldc_w q295_11 ?_
  refine wq_iand q295_14 ?_
  refine wq_iload_n q295_15 rfl ?_
  refine wq_iconst q295_16 ?_
  refine wq_iushr q295_17 ?_
  refine wq_ldc_w q295_18 ?_
  refine wq_iand q295_21 ?_
  refine wq_iadd q295_22 ?_
  refine wq_istore_n (ls' := [_]) q295_23 rfl ?_
  refine wq_iload_n q295_24 rfl ?_
  refine wq_iload_n q295_25 rfl ?_
  refine wq_iconst q295_26 ?_
  refine wq_iushr q295_27 ?_
  refine wq_iadd q295_28 ?_
  refine wq_ldc_w q295_29 ?_
  refine wq_iand q295_32 ?_
  refine wq_istore_n (ls' := [_]) q295_33 rfl ?_
  refine wq_iload_n q295_34 rfl ?_
  refine wq_iload_n q295_35 rfl ?_
  refine wq_bipush q295_36 ?_
  refine wq_iushr q295_38 ?_
  refine wq_iadd q295_39 ?_
  refine wq_istore_n (ls' := [_]) q295_40 rfl ?_
  refine wq_iload_n q295_41 rfl ?_
  refine wq_iload_n q295_42 rfl ?_
  refine wq_bipush q295_43 ?_
  refine wq_iushr q295_45 ?_
  refine wq_iadd q295_46 ?_
  refine wq_istore_n (ls' := [_]) q295_47 rfl ?_
  refine wq_iload_n q295_48 rfl ?_
  refine wq_bipush q295_49 ?_
  refine wq_iand q295_51 ?_
  refine rI q295_52 rfl ?_
  exact hQ
theorem c_sees {e : Int32} (hs : Scn h a r) (hQ : Q (some (.int (if ((hI h r 28) >>> (e &&& 31)) &&& 1 = 1 then 1 else 0))) h) : Ct G (0, 0) d 56 [.ref a, .int e] h Q := by
  obtain ⟨s1, s2, s3, s4⟩ := hs
  refine Ct_of (ls := [_, _]) m_56.1.2.2.1 (Nat.le_of_ble_eq_true rfl) rfl ?_
  refine wq_aload_n q56_0 rfl ?_
  refine wq_getR q56_1 (by first | exact s1 | exact s2 | exact s3 | exact s4 | rfl) rfl (by first | exact s1 | exact s2 | exact s3 | exact s4 | rfl) ?_
  refine wq_bipush q56_4 ?_
  refine aI q56_6 (by first | exact s1 | exact s2 | exact s3 | exact s4 | rfl) (rfl) (by decide) (by first | decide | omega) ?_
  refine wq_iload_n q56_7 rfl ?_
  refine wq_ishr q56_8 ?_
  refine wq_iconst q56_9 ?_
  refine wq_iand q56_10 ?_
  refine wq_iconst q56_11 ?_
  refine wq_icmp_ne q56_12 (fun c12 => ?_) (fun c12 => ?_)
  · refine wq_iconst q56_19 ?_
    refine rI q56_20 rfl ?_
    rw [if_neg c12] at hQ
    exact hQ
  · refine wq_iconst q56_15 ?_
    refine wq_goto q56_16 ?_
    refine rI q56_20 rfl ?_
    rw [if_pos c12] at hQ
    exact hQ
/-- in which cell one sits: the first that fits, or the last -/
def ceOf (row : Nat → Int32) (p : Int32) : Nat → Nat → Nat
  | 0, c => c
  | m + 1, c => if row c = p then c else ceOf row p m (c + 1)
theorem ceOf_le {row : Nat → Int32} {p : Int32} : ∀ (m c : Nat), ceOf row p m c ≤ c + m
  | 0, c => Nat.le_refl _
  | m + 1, c => by
    unfold ceOf
    split
    · omega
    · have := ceOf_le (row := row) (p := p) m (c + 1)
      omega
theorem c_cellOf_loop {p : Int32} (hs : Scn h a r) (hn : n ≤ 7) : ∀ (m c : Nat), c + m + 1 = n → Q (some (.int (nI (ceOf (hI h r) p m c)))) h →
    wq G (0, 0) d 57 2 [some (.ref a), some (.int p), some (.int (nI n)), some (.int (nI c))] [] (0, 0) h Q := by
  obtain ⟨s1, s2, s3, s4⟩ := hs
  intro m
  induction m with
  | zero =>
    intro c hc hQ
    have e : nI n - 1 = nI c := by rw [← hc]; exact nI_pred c
    refine wq_iload_n q57_2 rfl ?_
    refine wq_iload_n q57_3 rfl ?_
    refine wq_iconst q57_4 ?_
    refine wq_isub q57_5 ?_
    refine wq_icmp_ge q57_6 (fun c6 => ?_) (fun c6 => ?_)
    · refine wq_iload_n q57_27 rfl ?_
      refine rI q57_28 rfl ?_
      exact hQ
    · rw [e, nI_leI (by omega) (by omega)] at c6
      omega
  | succ m ih =>
    intro c hc hQ
    have e : nI n - 1 = nI (n - 1) := by rw [show n = n - 1 + 1 by omega]; exact nI_pred (n - 1)
    refine wq_iload_n q57_2 rfl ?_
    refine wq_iload_n q57_3 rfl ?_
    refine wq_iconst q57_4 ?_
    refine wq_isub q57_5 ?_
    refine wq_icmp_ge q57_6 (fun c6 => ?_) (fun c6 => ?_)
    · rw [e, nI_leI (by omega) (by omega)] at c6
      omega
    · refine wq_aload_n q57_9 rfl ?_
      refine wq_getR q57_10 (by first | exact s1 | exact s2 | exact s3 | exact s4 | rfl) rfl (by first | exact s1 | exact s2 | exact s3 | exact s4 | rfl) ?_
      refine wq_iconst q57_13 ?_
      refine wq_iload_n q57_14 rfl ?_
      refine wq_iadd q57_15 ?_
      refine aI q57_16 (by first | exact s1 | exact s2 | exact s3 | exact s4 | rfl) ((by rw [show (0 : Int32) = nI 0 from rfl, nI_add, Nat.zero_add])) (by omega) (by first | decide | omega) ?_
      refine wq_iload_n q57_17 rfl ?_
      refine wq_icmp_eq q57_18 (fun c18 => ?_) (fun c18 => ?_)
      · rw [ceOf, if_pos c18] at hQ
        refine wq_iload_n q57_27 rfl ?_
        refine rI q57_28 rfl ?_
        exact hQ
      · rw [ceOf, if_neg c18] at hQ
        refine wq_iinc (ls' := [_, _, _, _]) q57_21 rfl rfl ?_
        refine wq_goto q57_24 ?_
        rw [nI_1]
        exact ih (c + 1) (by omega) hQ
theorem c_cellOf {p : Int32} (hs : Scn h a r) (hn : n ≤ 7) (hn0 : 1 ≤ n) (hQ : Q (some (.int (nI (ceOf (hI h r) p (n - 1) 0)))) h) : Ct G (0, 0) d 57 [.ref a, .int p, .int (nI n)] h Q := by
  refine Ct_of (ls := [_, _, _, _]) m_57.1.2.2.1 (Nat.le_of_ble_eq_true rfl) rfl ?_
  refine wq_iconst q57_0 ?_
  refine wq_istore_n (ls' := [_, _, _, _]) q57_1 rfl ?_
  exact c_cellOf_loop hs hn (n - 1) 0 (by omega) hQ
/-- two change cells -/
def swR (row : Nat → Int32) (n : Nat) (p q : Int32) : Nat → Int32 := va_up (va_up row (ceOf row p (n - 1) 0) q) (ceOf row q (n - 1) 0) p
theorem c_swapCells {p q : Int32} (hs : Scn h a r) (hn : n ≤ 7) (hn0 : 1 ≤ n) (hQ : Q none (stC h r (swR (hI h r) n p q))) : Ct G (0, 0) (d + 1) 58 [.ref a, .int p, .int q, .int (nI n)] h Q := by
  have hs' := hs
  obtain ⟨s1, s2, s3, s4⟩ := hs
  have l1 := ceOf_le (row := hI h r) (p := p) (n - 1) 0
  have l2 := ceOf_le (row := hI h r) (p := q) (n - 1) 0
  refine Ct_of (ls := [_, _, _, _, _, _]) m_58.1.2.2.1 (Nat.le_of_ble_eq_true rfl) rfl ?_
  refine wq_aload_n q58_0 rfl ?_
  refine wq_iload_n q58_1 rfl ?_
  refine wq_iload_n q58_2 rfl ?_
  refine cV (As := [_, _]) q58_3 m_57 rfl rfl (by first | exact s1 | exact s2 | exact s3 | exact s4 | rfl) ⟨by decide, rfl⟩ rfl (c_cellOf hs' hn hn0 ?_)
  refine wq_istore (ls' := [_, _, _, _, _, _]) q58_6 rfl ?_
  refine wq_aload_n q58_8 rfl ?_
  refine wq_iload_n q58_9 rfl ?_
  refine wq_iload_n q58_10 rfl ?_
  refine cV (As := [_, _]) q58_11 m_57 rfl rfl (by first | exact s1 | exact s2 | exact s3 | exact s4 | rfl) ⟨by decide, rfl⟩ rfl (c_cellOf hs' hn hn0 ?_)
  refine wq_istore (ls' := [_, _, _, _, _, _]) q58_14 rfl ?_
  refine wq_aload_n q58_16 rfl ?_
  refine wq_getR q58_17 (by first | exact s1 | exact s2 | exact s3 | exact s4 | rfl) rfl (by first | exact s1 | exact s2 | exact s3 | exact s4 | rfl) ?_
  refine wq_iconst q58_20 ?_
  refine wq_iload q58_21 rfl ?_
  refine wq_iadd q58_23 ?_
  refine wq_iload_n q58_24 rfl ?_
  refine sI q58_25 (by first | exact s1 | exact s2 | exact s3 | exact s4 | rfl) ((by rw [show (0 : Int32) = nI 0 from rfl, nI_add, Nat.zero_add])) (by omega) (by first | decide | omega) (by first | exact s1 | exact s2 | exact s3 | exact s4 | rfl) ?_
  refine wq_aload_n q58_26 rfl ?_
  refine wq_getR q58_27 (by first | exact s1 | exact s2 | exact s3 | exact s4 | rfl) rfl (by first | exact s1 | exact s2 | exact s3 | exact s4 | rfl) ?_
  refine wq_iconst q58_30 ?_
  refine wq_iload q58_31 rfl ?_
  refine wq_iadd q58_33 ?_
  refine wq_iload_n q58_34 rfl ?_
  refine sI q58_35 (by first | exact s1 | exact s2 | exact s3 | exact s4 | rfl) ((by rw [show (0 : Int32) = nI 0 from rfl, nI_add, Nat.zero_add])) (by omega) (by first | decide | omega) (by first | exact s1 | exact s2 | exact s3 | exact s4 | rfl) ?_
  refine rV q58_36 ?_
  rw [stI_C, stI_C, hI_C, stC_C]
  exact hQ
/-- the first with the most bread -/
def riR (b : Nat → Int32) : Nat → Nat → Nat → Nat
  | 0, _, f => f
  | m + 1, p, f => riR b m (p + 1) (if b f < b p then p else f)
theorem riR_lt {b : Nat → Int32} : ∀ (m p f : Nat), f < p + m ∨ f = 0 → 0 < p + m → riR b m p f < p + m ∨ riR b m p f = 0 := by
  intro m
  induction m with
  | zero => intro p f h _; exact h
  | succ m ih =>
    intro p f h hp
    unfold riR
    have := ih (p + 1) (if b f < b p then p else f) (by split <;> omega) (by omega)
    omega
theorem c_richest_loop (hs : Scn h a r) (hn : n ≤ 7) : ∀ (m p f : Nat), p + m = n ∨ (m = 0 ∧ n ≤ p ∧ p ≤ 7) → f < 7 → Q (some (.int (nI (riR (fun i => hI h r (7 + i)) m p f)))) h →
    wq G (0, 0) d 59 4 [some (.ref a), some (.int (nI n)), some (.int (nI f)), some (.int (nI p))] [] (0, 0) h Q := by
  obtain ⟨s1, s2, s3, s4⟩ := hs
  intro m
  induction m with
  | zero =>
    intro p f hp hf hQ
    refine wq_iload_n q59_4 rfl ?_
    refine wq_iload_n q59_5 rfl ?_
    refine wq_icmp_ge q59_6 (fun c6 => ?_) (fun c6 => ?_)
    · refine wq_iload_n q59_38 rfl ?_
      refine rI q59_39 rfl ?_
      exact hQ
    · rw [nI_leI (by omega) (by omega)] at c6
      omega
  | succ m ih =>
    intro p f hp hf hQ
    rw [riR] at hQ
    refine wq_iload_n q59_4 rfl ?_
    refine wq_iload_n q59_5 rfl ?_
    refine wq_icmp_ge q59_6 (fun c6 => ?_) (fun c6 => ?_)
    · rw [nI_leI (by omega) (by omega)] at c6
      omega
    · refine wq_aload_n q59_9 rfl ?_
      refine wq_getR q59_10 (by first | exact s1 | exact s2 | exact s3 | exact s4 | rfl) rfl (by first | exact s1 | exact s2 | exact s3 | exact s4 | rfl) ?_
      refine wq_bipush q59_13 ?_
      refine wq_iload_n q59_15 rfl ?_
      refine wq_iadd q59_16 ?_
      refine aI q59_17 (by first | exact s1 | exact s2 | exact s3 | exact s4 | rfl) (nI_add 7 _) (by omega) (by first | decide | omega) ?_
      refine wq_aload_n q59_18 rfl ?_
      refine wq_getR q59_19 (by first | exact s1 | exact s2 | exact s3 | exact s4 | rfl) rfl (by first | exact s1 | exact s2 | exact s3 | exact s4 | rfl) ?_
      refine wq_bipush q59_22 ?_
      refine wq_iload_n q59_24 rfl ?_
      refine wq_iadd q59_25 ?_
      refine aI q59_26 (by first | exact s1 | exact s2 | exact s3 | exact s4 | rfl) (nI_add 7 _) (by omega) (by first | decide | omega) ?_
      refine wq_icmp_le q59_27 (fun c27 => ?_) (fun c27 => ?_)
      · rw [if_neg (Int32.not_lt.mpr c27)] at hQ
        refine wq_iinc (ls' := [_, _, _, _]) q59_32 rfl rfl ?_
        refine wq_goto q59_35 ?_
        rw [nI_1]
        exact ih (p + 1) f (by omega) hf hQ
      · rw [if_pos (Int32.not_le.mp c27)] at hQ
        refine wq_iload_n q59_30 rfl ?_
        refine wq_istore_n (ls' := [_, _, _, _]) q59_31 rfl ?_
        refine wq_iinc (ls' := [_, _, _, _]) q59_32 rfl rfl ?_
        refine wq_goto q59_35 ?_
        rw [nI_1]
        exact ih (p + 1) p (by omega) (by omega) hQ
theorem c_richest (hs : Scn h a r) (hn : n ≤ 7) (hQ : Q (some (.int (nI (riR (fun i => hI h r (7 + i)) (n - 1) 1 0)))) h) : Ct G (0, 0) d 59 [.ref a, .int (nI n)] h Q := by
  refine Ct_of (ls := [_, _, _, _]) m_59.1.2.2.1 (Nat.le_of_ble_eq_true rfl) rfl ?_
  refine wq_iconst q59_0 ?_
  refine wq_istore_n (ls' := [_, _, _, _]) q59_1 rfl ?_
  refine wq_iconst q59_2 ?_
  refine wq_istore_n (ls' := [_, _, _, _]) q59_3 rfl ?_
  exact c_richest_loop hs hn (n - 1) 1 0 (by omega) (by omega) hQ
def suR (b : Nat → Int32) : Nat → Nat → Int32 → Int32
  | 0, _, s => s
  | m + 1, p, s => suR b m (p + 1) (s + b p)
theorem c_breadOfAll_loop (hs : Scn h a r) (hn : n ≤ 7) : ∀ (m p : Nat) (x : Int32), p + m = n → Q (some (.int (suR (fun i => hI h r (7 + i)) m p x))) h →
    wq G (0, 0) d 60 4 [some (.ref a), some (.int (nI n)), some (.int x), some (.int (nI p))] [] (0, 0) h Q := by
  obtain ⟨s1, s2, s3, s4⟩ := hs
  intro m
  induction m with
  | zero =>
    intro p x hp hQ
    refine wq_iload_n q60_4 rfl ?_
    refine wq_iload_n q60_5 rfl ?_
    refine wq_icmp_ge q60_6 (fun c6 => ?_) (fun c6 => ?_)
    · refine wq_iload_n q60_27 rfl ?_
      refine rI q60_28 rfl ?_
      exact hQ
    · rw [nI_leI (by omega) (by omega)] at c6
      omega
  | succ m ih =>
    intro p x hp hQ
    refine wq_iload_n q60_4 rfl ?_
    refine wq_iload_n q60_5 rfl ?_
    refine wq_icmp_ge q60_6 (fun c6 => ?_) (fun c6 => ?_)
    · rw [nI_leI (by omega) (by omega)] at c6
      omega
    · refine wq_iload_n q60_9 rfl ?_
      refine wq_aload_n q60_10 rfl ?_
      refine wq_getR q60_11 (by first | exact s1 | exact s2 | exact s3 | exact s4 | rfl) rfl (by first | exact s1 | exact s2 | exact s3 | exact s4 | rfl) ?_
      refine wq_bipush q60_14 ?_
      refine wq_iload_n q60_16 rfl ?_
      refine wq_iadd q60_17 ?_
      refine aI q60_18 (by first | exact s1 | exact s2 | exact s3 | exact s4 | rfl) (nI_add 7 _) (by omega) (by first | decide | omega) ?_
      refine wq_iadd q60_19 ?_
      refine wq_istore_n (ls' := [_, _, _, _]) q60_20 rfl ?_
      refine wq_iinc (ls' := [_, _, _, _]) q60_21 rfl rfl ?_
      refine wq_goto q60_24 ?_
      rw [nI_1]
      exact ih (p + 1) _ (by omega) hQ
theorem c_breadOfAll (hs : Scn h a r) (hn : n ≤ 7) (hQ : Q (some (.int (suR (fun i => hI h r (7 + i)) n 0 0))) h) : Ct G (0, 0) d 60 [.ref a, .int (nI n)] h Q := by
  refine Ct_of (ls := [_, _, _, _]) m_60.1.2.2.1 (Nat.le_of_ble_eq_true rfl) rfl ?_
  refine wq_iconst q60_0 ?_
  refine wq_istore_n (ls' := [_, _, _, _]) q60_1 rfl ?_
  refine wq_iconst q60_2 ?_
  refine wq_istore_n (ls' := [_, _, _, _]) q60_3 rfl ?_
  exact c_breadOfAll_loop hs hn n 0 0 (by omega) hQ
def payR (row : Nat → Int32) (p q : Nat) (c : Int32) : Nat → Int32 := if row (7 + p) < c then row else va_up (va_up row (7 + p) (row (7 + p) - c)) (7 + q) (va_up row (7 + p) (row (7 + p) - c) (7 + q) + c)
theorem c_pay {p q : Nat} {c : Int32} (hs : Scn h a r) (hp : p < 7) (hq : q < 7) (hQ : Q none (stC h r (payR (hI h r) p q c))) : Ct G (0, 0) d 61 [.ref a, .int (nI p), .int (nI q), .int c] h Q := by
  obtain ⟨s1, s2, s3, s4⟩ := hs
  refine Ct_of (ls := [_, _, _, _]) m_61.1.2.2.1 (Nat.le_of_ble_eq_true rfl) rfl ?_
  refine wq_aload_n q61_0 rfl ?_
  refine wq_getR q61_1 (by first | exact s1 | exact s2 | exact s3 | exact s4 | rfl) rfl (by first | exact s1 | exact s2 | exact s3 | exact s4 | rfl) ?_
  refine wq_bipush q61_4 ?_
  refine wq_iload_n q61_6 rfl ?_
  refine wq_iadd q61_7 ?_
  refine aI q61_8 (by first | exact s1 | exact s2 | exact s3 | exact s4 | rfl) (nI_add 7 _) (by omega) (by first | decide | omega) ?_
  refine wq_iload_n q61_9 rfl ?_
  refine wq_icmp_lt q61_10 (fun c10 => ?_) (fun c10 => ?_)
  · refine rV q61_39 ?_
    rw [payR, if_pos c10, stC_self _ _ rfl] at hQ
    exact hQ
  · refine wq_aload_n q61_13 rfl ?_
    refine wq_getR q61_14 (by first | exact s1 | exact s2 | exact s3 | exact s4 | rfl) rfl (by first | exact s1 | exact s2 | exact s3 | exact s4 | rfl) ?_
    refine wq_bipush q61_17 ?_
    refine wq_iload_n q61_19 rfl ?_
    refine wq_iadd q61_20 ?_
    refine wq_dup2 q61_21 rfl rfl ?_
    refine aI q61_22 (by first | exact s1 | exact s2 | exact s3 | exact s4 | rfl) (nI_add 7 _) (by omega) (by first | decide | omega) ?_
    refine wq_iload_n q61_23 rfl ?_
    refine wq_isub q61_24 ?_
    refine sI q61_25 (by first | exact s1 | exact s2 | exact s3 | exact s4 | rfl) (nI_add 7 _) (by omega) (by first | decide | omega) (by first | exact s1 | exact s2 | exact s3 | exact s4 | rfl) ?_
    refine wq_aload_n q61_26 rfl ?_
    refine wq_getR q61_27 (by first | exact s1 | exact s2 | exact s3 | exact s4 | rfl) rfl (by first | exact s1 | exact s2 | exact s3 | exact s4 | rfl) ?_
    refine wq_bipush q61_30 ?_
    refine wq_iload_n q61_32 rfl ?_
    refine wq_iadd q61_33 ?_
    refine wq_dup2 q61_34 rfl rfl ?_
    refine aI q61_35 (by first | exact s1 | exact s2 | exact s3 | exact s4 | rfl) (nI_add 7 _) (by omega) (by first | decide | omega) ?_
    refine wq_iload_n q61_36 rfl ?_
    refine wq_iadd q61_37 ?_
    refine sI q61_38 (by first | exact s1 | exact s2 | exact s3 | exact s4 | rfl) (nI_add 7 _) (by omega) (by first | decide | omega) (by first | exact s1 | exact s2 | exact s3 | exact s4 | rfl) ?_
    refine rV q61_39 ?_
    rw [payR, if_neg c10] at hQ
    rw [stI_C, stI_C, hI_C, stC_C]
    exact hQ
end SCENE
end
section
/-! SCENES (more), ACTS, DIARIES, WITNESSES -/
def upC (hi : Nat → Nat → Int32) (a : Nat) (F : Nat → Int32) : Nat → Nat → Int32 := fun b => if b = a then F else hi b
theorem upC_s (hi : Nat → Nat → Int32) (a : Nat) (F : Nat → Int32) : upC hi a F a = F := if_pos rfl
theorem upC_o (hi : Nat → Nat → Int32) {a b : Nat} (F : Nat → Int32) (h : b ≠ a) : upC hi a F b = hi b := if_neg h
theorem upC_C (hi : Nat → Nat → Int32) (a : Nat) (F F' : Nat → Int32) : upC (upC hi a F) a F' = upC hi a F' := by
  funext b; by_cases h : b = a <;> simp [upC, h]
theorem upC_comm (hi : Nat → Nat → Int32) {a b : Nat} (F F' : Nat → Int32) (h : a ≠ b) : upC (upC hi a F) b F' = upC (upC hi b F') a F := by
  funext c
  by_cases h1 : c = a
  · subst h1
    simp [upC, h]
  · by_cases h2 : c = b
    · subst h2
      simp [upC, h1]
    · simp [upC, h1, h2]
theorem upC_self (hi : Nat → Nat → Int32) (a : Nat) {F : Nat → Int32} (h : F = hi a) : upC hi a F = hi := by
  subst h; funext b; by_cases hb : b = a <;> simp [upC, hb]
theorem hpC (hi : Nat → Nat → Int32) (hl : Nat → Nat → Int64) (f dr t a : Nat) (F : Nat → Int32) : stC (HP hi hl f dr t) a F = HP (upC hi a F) hl f dr t := rfl
theorem up2_C (hi : Nat → Nat → Int32) (a i : Nat) (x : Int32) : up2 hi a i x = upC hi a (va_up (hi a) i x) := rfl
section SCENE2
variable {G : ph_G} {d a r n : Nat} {h : ph_H} {Q : Option Value → ph_H → Prop}
/-- a day ends -/
def edA (row : Nat → Int32) (k : Nat) : Nat → Int32 := fun j => if 21 ≤ j ∧ j < 21 + k then 0 else row j
def edR (row : Nat → Int32) : Nat → Int32 := va_up (va_up (va_up (va_up (edA row 7) 28 0) 29 0) 30 0) 32 (row 32 + 1)
theorem edA_up (row : Nat → Int32) (k : Nat) : va_up (edA row k) (21 + k) 0 = edA row (k + 1) := by
  funext j
  by_cases h1 : j = 21 + k
  · subst h1; simp [va_up, edA]
  · simp only [va_up, if_neg h1, edA]
    by_cases h2 : 21 ≤ j ∧ j < 21 + k
    · rw [if_pos h2, if_pos (by omega)]
    · rw [if_neg h2, if_neg (by omega)]
theorem c_endDay_loop (hs : Scn h a r) : ∀ (m k : Nat), k + m = 7 → Q none (stC h r (edR (hI h r))) →
    wq G (0, 0) d 63 2 [some (.ref a), some (.int (nI k))] [] (0, 0) (stC h r (edA (hI h r) k)) Q := by
  obtain ⟨s1, s2, s3, s4⟩ := hs
  intro m
  induction m with
  | zero =>
    intro k hk hQ
    refine wq_iload_n q63_2 rfl ?_
    refine wq_bipush q63_3 ?_
    refine wq_icmp_ge q63_5 (fun c5 => ?_) (fun c5 => ?_)
    · refine wq_aload_n q63_24 rfl ?_
      refine wq_getR q63_25 (by first | exact s1 | exact s2 | exact s3 | exact s4 | rfl) rfl (by first | exact s1 | exact s2 | exact s3 | exact s4 | rfl) ?_
      refine wq_bipush q63_28 ?_
      refine wq_iconst q63_30 ?_
      refine sI q63_31 (by first | exact s1 | exact s2 | exact s3 | exact s4 | rfl) (rfl) (by decide) (by first | decide | omega) (by first | exact s1 | exact s2 | exact s3 | exact s4 | rfl) ?_
      refine wq_aload_n q63_32 rfl ?_
      refine wq_getR q63_33 (by first | exact s1 | exact s2 | exact s3 | exact s4 | rfl) rfl (by first | exact s1 | exact s2 | exact s3 | exact s4 | rfl) ?_
      refine wq_bipush q63_36 ?_
      refine wq_iconst q63_38 ?_
      refine sI q63_39 (by first | exact s1 | exact s2 | exact s3 | exact s4 | rfl) (rfl) (by decide) (by first | decide | omega) (by first | exact s1 | exact s2 | exact s3 | exact s4 | rfl) ?_
      refine wq_aload_n q63_40 rfl ?_
      refine wq_getR q63_41 (by first | exact s1 | exact s2 | exact s3 | exact s4 | rfl) rfl (by first | exact s1 | exact s2 | exact s3 | exact s4 | rfl) ?_
      refine wq_bipush q63_44 ?_
      refine wq_iconst q63_46 ?_
      refine sI q63_47 (by first | exact s1 | exact s2 | exact s3 | exact s4 | rfl) (rfl) (by decide) (by first | decide | omega) (by first | exact s1 | exact s2 | exact s3 | exact s4 | rfl) ?_
      refine wq_aload_n q63_48 rfl ?_
      refine wq_getR q63_49 (by first | exact s1 | exact s2 | exact s3 | exact s4 | rfl) rfl (by first | exact s1 | exact s2 | exact s3 | exact s4 | rfl) ?_
      refine wq_bipush q63_52 ?_
      refine wq_dup2 q63_54 rfl rfl ?_
      refine aI q63_55 (by first | exact s1 | exact s2 | exact s3 | exact s4 | rfl) (rfl) (by decide) (by first | decide | omega) ?_
      refine wq_iconst q63_56 ?_
      refine wq_iadd q63_57 ?_
      refine sI q63_58 (by first | exact s1 | exact s2 | exact s3 | exact s4 | rfl) (rfl) (by decide) (by first | decide | omega) (by first | exact s1 | exact s2 | exact s3 | exact s4 | rfl) ?_
      refine rV q63_59 ?_
      simp only [stI_C, hI_C, stC_C]
      have : k = 7 := by omega
      subst this
      exact hQ
    · rw [show (7 : Int32) = nI 7 from rfl, nI_leI (by omega) (by omega)] at c5
      omega
  | succ m ih =>
    intro k hk hQ
    refine wq_iload_n q63_2 rfl ?_
    refine wq_bipush q63_3 ?_
    refine wq_icmp_ge q63_5 (fun c5 => ?_) (fun c5 => ?_)
    · rw [show (7 : Int32) = nI 7 from rfl, nI_leI (by omega) (by omega)] at c5
      omega
    · refine wq_aload_n q63_8 rfl ?_
      refine wq_getR q63_9 (by first | exact s1 | exact s2 | exact s3 | exact s4 | rfl) rfl (by first | exact s1 | exact s2 | exact s3 | exact s4 | rfl) ?_
      refine wq_bipush q63_12 ?_
      refine wq_iload_n q63_14 rfl ?_
      refine wq_iadd q63_15 ?_
      refine wq_iconst q63_16 ?_
      refine sI q63_17 (by first | exact s1 | exact s2 | exact s3 | exact s4 | rfl) (nI_add 21 _) (by omega) (by first | decide | omega) (by first | exact s1 | exact s2 | exact s3 | exact s4 | rfl) ?_
      refine wq_iinc (ls' := [_, _]) q63_18 rfl rfl ?_
      refine wq_goto q63_21 ?_
      rw [nI_1, stI_C, hI_C, stC_C, edA_up]
      exact ih (k + 1) (by omega) hQ
theorem c_endDay (hs : Scn h a r) (hQ : Q none (stC h r (edR (hI h r)))) : Ct G (0, 0) d 63 [.ref a] h Q := by
  refine Ct_of (ls := [_, _]) m_63.1.2.2.1 (Nat.le_of_ble_eq_true rfl) rfl ?_
  refine wq_iconst q63_0 ?_
  refine wq_istore_n (ls' := [_, _]) q63_1 rfl ?_
  have := c_endDay_loop (G := G) (d := d) hs 7 0 (by omega) hQ
  rw [stC_self h r (f := edA (hI h r) 0) (by funext j; simp only [edA]; rw [if_neg (by omega)])] at this
  exact this
/-- what is known behind the telling -/
def wtA (row : Nat → Int32) (k : Nat) : Nat → Int32 := fun j => if 21 ≤ j ∧ j < 21 + k then row j ||| (row 28 &&& row (j - 7)) else row j
def wtR (row : Nat → Int32) (te : Nat) (hd : Int32) (n : Nat) : Nat → Int32 := va_up (va_up (wtA (va_up row (21 + te) (row (21 + te) ||| row 28)) n) 29 hd) 30 1
theorem wtA_up (row : Nat → Int32) {k : Nat} (hk : k < 7) : va_up (wtA row k) (21 + k) (wtA row k (21 + k) ||| (wtA row k 28 &&& wtA row k (14 + k))) = wtA row (k + 1) := by
  have e1 : wtA row k (21 + k) = row (21 + k) := by simp only [wtA]; rw [if_neg (by omega)]
  have e2 : wtA row k 28 = row 28 := by simp only [wtA]; rw [if_neg (by omega)]
  have e3 : wtA row k (14 + k) = row (14 + k) := by simp only [wtA]; rw [if_neg (by omega)]
  rw [e1, e2, e3]
  funext j
  by_cases h1 : j = 21 + k
  · subst h1
    simp only [va_up, if_pos, wtA]
    rw [if_pos (by omega), show 21 + k - 7 = 14 + k by omega]
  · simp only [va_up, if_neg h1, wtA]
    by_cases h2 : 21 ≤ j ∧ j < 21 + k
    · rw [if_pos h2, if_pos (by omega)]
    · rw [if_neg h2, if_neg (by omega)]
theorem c_wasTold_loop {row : Nat → Int32} {x1 hd : Int32} (hs : Scn h a r) (hn : n ≤ 7) : ∀ (m k : Nat), k + m = n → Q none (stC h r (va_up (va_up (wtA row n) 29 hd) 30 1)) →
    wq G (0, 0) d 62 22 [some (.ref a), some (.int x1), some (.int hd), some (.int (nI n)), some (.int (nI k))] [] (0, 0) (stC h r (wtA row k)) Q := by
  obtain ⟨s1, s2, s3, s4⟩ := hs
  intro m
  induction m with
  | zero =>
    intro k hk hQ
    refine wq_iload q62_22 rfl ?_
    refine wq_iload_n q62_24 rfl ?_
    refine wq_icmp_ge q62_25 (fun c25 => ?_) (fun c25 => ?_)
    · refine wq_aload_n q62_65 rfl ?_
      refine wq_getR q62_66 (by first | exact s1 | exact s2 | exact s3 | exact s4 | rfl) rfl (by first | exact s1 | exact s2 | exact s3 | exact s4 | rfl) ?_
      refine wq_bipush q62_69 ?_
      refine wq_iload_n q62_71 rfl ?_
      refine sI q62_72 (by first | exact s1 | exact s2 | exact s3 | exact s4 | rfl) (rfl) (by decide) (by first | decide | omega) (by first | exact s1 | exact s2 | exact s3 | exact s4 | rfl) ?_
      refine wq_aload_n q62_73 rfl ?_
      refine wq_getR q62_74 (by first | exact s1 | exact s2 | exact s3 | exact s4 | rfl) rfl (by first | exact s1 | exact s2 | exact s3 | exact s4 | rfl) ?_
      refine wq_bipush q62_77 ?_
      refine wq_iconst q62_79 ?_
      refine sI q62_80 (by first | exact s1 | exact s2 | exact s3 | exact s4 | rfl) (rfl) (by decide) (by first | decide | omega) (by first | exact s1 | exact s2 | exact s3 | exact s4 | rfl) ?_
      refine rV q62_81 ?_
      simp only [stI_C, hI_C, stC_C]
      have : k = n := by omega
      subst this
      exact hQ
    · rw [nI_leI (by omega) (by omega)] at c25
      omega
  | succ m ih =>
    intro k hk hQ
    refine wq_iload q62_22 rfl ?_
    refine wq_iload_n q62_24 rfl ?_
    refine wq_icmp_ge q62_25 (fun c25 => ?_) (fun c25 => ?_)
    · rw [nI_leI (by omega) (by omega)] at c25
      omega
    · refine wq_aload_n q62_28 rfl ?_
      refine wq_getR q62_29 (by first | exact s1 | exact s2 | exact s3 | exact s4 | rfl) rfl (by first | exact s1 | exact s2 | exact s3 | exact s4 | rfl) ?_
      refine wq_bipush q62_32 ?_
      refine wq_iload q62_34 rfl ?_
      refine wq_iadd q62_36 ?_
      refine wq_dup2 q62_37 rfl rfl ?_
      refine aI q62_38 (by first | exact s1 | exact s2 | exact s3 | exact s4 | rfl) (nI_add 21 _) (by omega) (by first | decide | omega) ?_
      refine wq_aload_n q62_39 rfl ?_
      refine wq_getR q62_40 (by first | exact s1 | exact s2 | exact s3 | exact s4 | rfl) rfl (by first | exact s1 | exact s2 | exact s3 | exact s4 | rfl) ?_
      refine wq_bipush q62_43 ?_
      refine aI q62_45 (by first | exact s1 | exact s2 | exact s3 | exact s4 | rfl) (rfl) (by decide) (by first | decide | omega) ?_
      refine wq_aload_n q62_46 rfl ?_
      refine wq_getR q62_47 (by first | exact s1 | exact s2 | exact s3 | exact s4 | rfl) rfl (by first | exact s1 | exact s2 | exact s3 | exact s4 | rfl) ?_
      refine wq_bipush q62_50 ?_
      refine wq_iload q62_52 rfl ?_
      refine wq_iadd q62_54 ?_
      refine aI q62_55 (by first | exact s1 | exact s2 | exact s3 | exact s4 | rfl) (nI_add 14 _) (by omega) (by first | decide | omega) ?_
      refine wq_iand q62_56 ?_
      refine wq_ior q62_57 ?_
      refine sI q62_58 (by first | exact s1 | exact s2 | exact s3 | exact s4 | rfl) (nI_add 21 _) (by omega) (by first | decide | omega) (by first | exact s1 | exact s2 | exact s3 | exact s4 | rfl) ?_
      refine wq_iinc (ls' := [_, _, _, _, _]) q62_59 rfl rfl ?_
      refine wq_goto q62_62 ?_
      rw [nI_1, stI_C, hI_C, stC_C, wtA_up row (by omega)]
      exact ih (k + 1) (by omega) hQ
theorem c_wasTold {te : Nat} {hd : Int32} (hs : Scn h a r) (hn : n ≤ 7) (ht : te < 7) (hQ : Q none (stC h r (wtR (hI h r) te hd n))) : Ct G (0, 0) d 62 [.ref a, .int (nI te), .int hd, .int (nI n)] h Q := by
  have hs' := hs
  obtain ⟨s1, s2, s3, s4⟩ := hs
  refine Ct_of (ls := [_, _, _, _, _]) m_62.1.2.2.1 (Nat.le_of_ble_eq_true rfl) rfl ?_
  refine wq_aload_n q62_0 rfl ?_
  refine wq_getR q62_1 (by first | exact s1 | exact s2 | exact s3 | exact s4 | rfl) rfl (by first | exact s1 | exact s2 | exact s3 | exact s4 | rfl) ?_
  refine wq_bipush q62_4 ?_
  refine wq_iload_n q62_6 rfl ?_
  refine wq_iadd q62_7 ?_
  refine wq_dup2 q62_8 rfl rfl ?_
  refine aI q62_9 (by first | exact s1 | exact s2 | exact s3 | exact s4 | rfl) (nI_add 21 _) (by omega) (by first | decide | omega) ?_
  refine wq_aload_n q62_10 rfl ?_
  refine wq_getR q62_11 (by first | exact s1 | exact s2 | exact s3 | exact s4 | rfl) rfl (by first | exact s1 | exact s2 | exact s3 | exact s4 | rfl) ?_
  refine wq_bipush q62_14 ?_
  refine aI q62_16 (by first | exact s1 | exact s2 | exact s3 | exact s4 | rfl) (rfl) (by decide) (by first | decide | omega) ?_
  refine wq_ior q62_17 ?_
  refine sI q62_18 (by first | exact s1 | exact s2 | exact s3 | exact s4 | rfl) (nI_add 21 _) (by omega) (by first | decide | omega) (by first | exact s1 | exact s2 | exact s3 | exact s4 | rfl) ?_
  refine wq_iconst q62_19 ?_
  refine wq_istore (ls' := [_, _, _, _, _]) q62_20 rfl ?_
  have := c_wasTold_loop (G := G) (d := d) (x1 := nI te) (row := va_up (hI h r) (21 + te) (hI h r (21 + te) ||| hI h r 28)) hs' hn n 0 (by omega) hQ
  rw [show wtA (va_up (hI h r) (21 + te) (hI h r (21 + te) ||| hI h r 28)) 0 = va_up (hI h r) (21 + te) (hI h r (21 + te) ||| hI h r 28) by funext j; simp only [wtA]; rw [if_neg (by omega)]] at this
  exact this
theorem c_scopy {a2 r2 : Nat} (hs : Scn h a r) (hs2 : Scn h a2 r2) (hQ : Q none (stC h r (va_cpy (hI h r2) (hI h r) 0 0 33))) : Ct G (0, 0) (d + 1) 55 [.ref a, .ref a2] h Q := by
  obtain ⟨s1, s2, s3, s4⟩ := hs
  obtain ⟨t1, t2, t3, t4⟩ := hs2
  refine Ct_of (ls := [_, _]) m_55.1.2.2.1 (Nat.le_of_ble_eq_true rfl) rfl ?_
  refine wq_aload_n q55_0 rfl ?_
  refine wq_getR q55_1 (by first | exact t1 | exact t2 | exact s1 | exact s2 | rfl) rfl (by first | exact t1 | exact t2 | exact s1 | exact s2 | rfl) ?_
  refine wq_iconst q55_4 ?_
  refine wq_aload_n q55_5 rfl ?_
  refine wq_getR q55_6 (by first | exact t1 | exact t2 | exact s1 | exact s2 | rfl) rfl (by first | exact t1 | exact t2 | exact s1 | exact s2 | rfl) ?_
  refine wq_iconst q55_9 ?_
  refine wq_bipush q55_10 ?_
  refine wq_copy q55_12 t3 s3 (by decide) (by decide) (by decide) (by decide) (by decide) s4 ⟨Nat.le.refl, Nat.le.refl, Nat.le_of_ble_eq_true rfl⟩ ?_
  refine rV q55_15 ?_
  exact hQ
end SCENE2
section ACTS
variable {G : ph_G} {d a r n f dr t : Nat} {hi : Nat → Nat → Int32} {hl : Nat → Nat → Int64} {Q : Option Value → ph_H → Prop}
theorem c_aforget (hQ : Q none (HP (up2 hi 48 2 0) hl f dr t)) : Ct G (0, 0) d 1 [.ref 48] (HP hi hl f dr t) Q := by
  refine Ct_of (ls := [_]) m_1.1.2.2.1 (Nat.le_of_ble_eq_true rfl) rfl ?_
  refine wq_aload_n q1_0 rfl ?_
  refine wq_iconst q1_1 ?_
  refine wq_putI q1_2 rfl rfl rfl rfl ?_
  refine rV q1_5 ?_
  exact hQ
/-- an act is kept: the row goes to the next place -/
def keA (hi : Nat → Nat → Int32) (r nx kp : Nat) : Nat → Nat → Int32 := up2 (up2 (upC hi 49 (va_cpy (hi r) (hi 49) 0 (nx * 33) 33)) 48 1 (nI ((nx + 1) % 40))) 48 2 (nI (min (kp + 1) 40))
theorem c_keep {nx kp : Nat} (hs : Scn (HP hi hl f dr t) a r) (h1 : hi 48 1 = nI nx) (h1' : nx < 40) (h2 : hi 48 2 = nI kp) (h2' : kp ≤ 40) (hQ : Q none (HP (keA hi r nx kp) hl f dr t)) : Ct G (0, 0) (d + 1) 2 [.ref 48, .ref a] (HP hi hl f dr t) Q := by
  obtain ⟨s1, s2, s3, s4⟩ := hs
  have e1 : hI (HP hi hl f dr t) 48 1 = nI nx := h1
  have e2 : nI nx * 33 = nI (nx * 33) := pk_mul nx 33
  have e3 : (nI (nx * 33)).toNatClampNeg = nx * 33 := nI_clamp (by omega)
  refine Ct_of (ls := [_, _]) m_2.1.2.2.1 (Nat.le_of_ble_eq_true rfl) rfl ?_
  refine wq_aload_n q2_0 rfl ?_
  refine wq_getR q2_1 (by first | exact s1 | exact s2 | rfl) rfl (by first | exact s1 | exact s2 | rfl) ?_
  refine wq_iconst q2_4 ?_
  refine wq_aload_n q2_5 rfl ?_
  refine wq_getR q2_6 (by first | exact s1 | exact s2 | rfl) rfl (by first | exact s1 | exact s2 | rfl) ?_
  refine wq_aload_n q2_9 rfl ?_
  refine wq_getI q2_10 (by first | exact s1 | exact s2 | rfl) rfl ?_
  refine wq_bipush q2_13 ?_
  refine wq_imul q2_15 ?_
  refine wq_bipush q2_16 ?_
  rw [e1, e2]
  refine wq_copy q2_18 s3 rfl (by decide) (nI_pos (by omega)) (by decide) (by decide) (by rw [e3]; show nx * 33 + 33 ≤ 1320; omega) rfl ⟨Nat.le.refl, Nat.le.refl, Nat.le_of_ble_eq_true rfl⟩ ?_
  rw [e3]
  refine wq_aload_n q2_21 rfl ?_
  refine wq_aload_n q2_22 rfl ?_
  refine wq_getI q2_23 rfl rfl ?_
  refine wq_iconst q2_26 ?_
  refine wq_iadd q2_27 ?_
  have e4 : hI (stC (HP hi hl f dr t) 49 (va_cpy (hI (HP hi hl f dr t) r) (hI (HP hi hl f dr t) 49) (0 : Int32).toNatClampNeg (nx * 33) (33 : Int32).toNatClampNeg)) 48 1 = nI nx := h1
  rw [e4, nI_1]
  refine wq_bipush q2_28 ?_
  refine wq_irem q2_30 (by decide) ?_
  refine wq_putI q2_31 rfl rfl rfl rfl ?_
  refine wq_aload_n q2_34 rfl ?_
  refine wq_aload_n q2_35 rfl ?_
  refine wq_getI q2_36 rfl rfl ?_
  refine wq_iconst q2_39 ?_
  refine wq_iadd q2_40 ?_
  refine wq_bipush q2_41 ?_
  have e5 : nI (nx + 1) - nI (nx + 1) / 40 * 40 = nI ((nx + 1) % 40) := pk_rem (d := 40) (by omega) (by omega) (by omega)
  rw [e5]
  have e6 : hI (HP hi hl f dr t) 48 2 = nI kp := h2
  refine wq_min q2_43 ⟨Nat.le.refl, Nat.le.refl, Nat.le_of_ble_eq_true rfl⟩ ?_
  refine wq_putI q2_46 rfl rfl rfl rfl ?_
  refine rV q2_49 ?_
  have e7 : (if (40 : Int32) < nI kp + 1 then (40 : Int32) else nI kp + 1) = nI (min (kp + 1) 40) := by
    rw [nI_1, show (40 : Int32) = nI 40 from rfl]
    by_cases hc : 40 < kp + 1
    · rw [if_pos ((nI_ltI (by omega) (by omega)).mpr hc), Nat.min_eq_right (by omega)]
    · rw [if_neg (fun z => hc ((nI_ltI (by omega) (by omega)).mp z)), Nat.min_eq_left (by omega)]
  have e8 : hI (stI (stC (HP hi hl f dr t) 49 (va_cpy (hI (HP hi hl f dr t) r) (hI (HP hi hl f dr t) 49) (0 : Int32).toNatClampNeg (nx * 33) (33 : Int32).toNatClampNeg)) 48 1 (nI ((nx + 1) % 40))) 48 2 = nI kp := h2
  rw [e8, e7]
  exact hQ
end ACTS
end
